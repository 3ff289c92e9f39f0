theorem dX6_takeCurve_167 : decode cX6_takeCurve 167 = .ok (.invokevirtual 78, 3) := by decide +kernel
theorem dX6_takeCurve_170 : decode cX6_takeCurve 170 = .ok (.aload_n 0, 1) := by decide +kernel
theorem dX6_takeCurve_171 : decode cX6_takeCurve 171 = .ok (.getfield 18, 3) := by decide +kernel
theorem dX6_takeCurve_174 : decode cX6_takeCurve 174 = .ok (.iload_n 1, 1) := by decide +kernel
theorem dX6_takeCurve_175 : decode cX6_takeCurve 175 = .ok (.iconst 1, 1) := by decide +kernel
theorem dX6_takeCurve_176 : decode cX6_takeCurve 176 = .ok (.iadd, 1) := by decide +kernel
theorem dX6_takeCurve_177 : decode cX6_takeCurve 177 = .ok (.iconst 3, 1) := by decide +kernel
theorem dX6_takeCurve_178 : decode cX6_takeCurve 178 = .ok (.iload 5, 2) := by decide +kernel
theorem dX6_takeCurve_180 : decode cX6_takeCurve 180 = .ok (.aload_n 0, 1) := by decide +kernel
theorem dX6_takeCurve_181 : decode cX6_takeCurve 181 = .ok (.getfield 70, 3) := by decide +kernel
theorem dX6_takeCurve_184 : decode cX6_takeCurve 184 = .ok (.isub, 1) := by decide +kernel
theorem dX6_takeCurve_185 : decode cX6_takeCurve 185 = .ok (.ldc 73, 2) := by decide +kernel
theorem dX6_takeCurve_187 : decode cX6_takeCurve 187 = .ok (.imul, 1) := by decide +kernel
theorem dX6_takeCurve_188 : decode cX6_takeCurve 188 = .ok (.invokevirtual 78, 3) := by decide +kernel
theorem dX6_takeCurve_191 : decode cX6_takeCurve 191 = .ok (.return_, 1) := by decide +kernel
theorem dX6_takeLine_0 : decode cX6_takeLine 0 = .ok (.aload_n 0, 1) := by decide +kernel
theorem dX6_takeLine_1 : decode cX6_takeLine 1 = .ok (.aload_n 0, 1) := by decide +kernel
theorem dX6_takeLine_2 : decode cX6_takeLine 2 = .ok (.iconst 0, 1) := by decide +kernel
theorem dX6_takeLine_3 : decode cX6_takeLine 3 = .ok (.invokevirtual 66, 3) := by decide +kernel
theorem dX6_takeLine_6 : decode cX6_takeLine 6 = .ok (.putfield 63, 3) := by decide +kernel
theorem dX6_takeLine_9 : decode cX6_takeLine 9 = .ok (.aload_n 0, 1) := by decide +kernel
theorem dX6_takeLine_10 : decode cX6_takeLine 10 = .ok (.bipush 32, 2) := by decide +kernel
theorem dX6_takeLine_12 : decode cX6_takeLine 12 = .ok (.invokevirtual 36, 3) := by decide +kernel
theorem dX6_takeLine_15 : decode cX6_takeLine 15 = .ok (.aload_n 0, 1) := by decide +kernel
theorem dX6_takeLine_16 : decode cX6_takeLine 16 = .ok (.aload_n 0, 1) := by decide +kernel
theorem dX6_takeLine_17 : decode cX6_takeLine 17 = .ok (.iconst 0, 1) := by decide +kernel
theorem dX6_takeLine_18 : decode cX6_takeLine 18 = .ok (.invokevirtual 66, 3) := by decide +kernel
theorem dX6_takeLine_21 : decode cX6_takeLine 21 = .ok (.putfield 70, 3) := by decide +kernel
theorem dX6_takeLine_24 : decode cX6_takeLine 24 = .ok (.aload_n 0, 1) := by decide +kernel
theorem dX6_takeLine_25 : decode cX6_takeLine 25 = .ok (.getfield 18, 3) := by decide +kernel
theorem dX6_takeLine_28 : decode cX6_takeLine 28 = .ok (.aload_n 0, 1) := by decide +kernel
theorem dX6_takeLine_29 : decode cX6_takeLine 29 = .ok (.getfield 63, 3) := by decide +kernel
theorem dX6_takeLine_32 : decode cX6_takeLine 32 = .ok (.ldc 73, 2) := by decide +kernel
theorem dX6_takeLine_34 : decode cX6_takeLine 34 = .ok (.imul, 1) := by decide +kernel
theorem dX6_takeLine_35 : decode cX6_takeLine 35 = .ok (.aload_n 0, 1) := by decide +kernel
theorem dX6_takeLine_36 : decode cX6_takeLine 36 = .ok (.getfield 70, 3) := by decide +kernel
theorem dX6_takeLine_39 : decode cX6_takeLine 39 = .ok (.ldc 73, 2) := by decide +kernel
theorem dX6_takeLine_41 : decode cX6_takeLine 41 = .ok (.imul, 1) := by decide +kernel
theorem dX6_takeLine_42 : decode cX6_takeLine 42 = .ok (.invokevirtual 74, 3) := by decide +kernel
theorem dX6_takeLine_45 : decode cX6_takeLine 45 = .ok (.return_, 1) := by decide +kernel
theorem dX6_takeNumber_0 : decode cX6_takeNumber 0 = .ok (.aload_n 0, 1) := by decide +kernel
theorem dX6_takeNumber_1 : decode cX6_takeNumber 1 = .ok (.getfield 26, 3) := by decide +kernel
theorem dX6_takeNumber_4 : decode cX6_takeNumber 4 = .ok (.istore_n 2, 1) := by decide +kernel
theorem dX6_takeNumber_5 : decode cX6_takeNumber 5 = .ok (.aload_n 0, 1) := by decide +kernel
theorem dX6_takeNumber_6 : decode cX6_takeNumber 6 = .ok (.invokevirtual 46, 3) := by decide +kernel
theorem dX6_takeNumber_9 : decode cX6_takeNumber 9 = .ok (.bipush 45, 2) := by decide +kernel
theorem dX6_takeNumber_11 : decode cX6_takeNumber 11 = .ok (.if_icmp .ne 7, 3) := by decide +kernel
theorem dX6_takeNumber_14 : decode cX6_takeNumber 14 = .ok (.iconst 1, 1) := by decide +kernel
theorem dX6_takeNumber_15 : decode cX6_takeNumber 15 = .ok (.goto 4, 3) := by decide +kernel
theorem dX6_takeNumber_18 : decode cX6_takeNumber 18 = .ok (.iconst 0, 1) := by decide +kernel
theorem dX6_takeNumber_19 : decode cX6_takeNumber 19 = .ok (.istore_n 3, 1) := by decide +kernel
theorem dX6_takeNumber_20 : decode cX6_takeNumber 20 = .ok (.iload_n 3, 1) := by decide +kernel
theorem dX6_takeNumber_21 : decode cX6_takeNumber 21 = .ok (.ifCond .eq 13, 3) := by decide +kernel
theorem dX6_takeNumber_24 : decode cX6_takeNumber 24 = .ok (.aload_n 0, 1) := by decide +kernel
theorem dX6_takeNumber_25 : decode cX6_takeNumber 25 = .ok (.dup, 1) := by decide +kernel
theorem dX6_takeNumber_26 : decode cX6_takeNumber 26 = .ok (.getfield 26, 3) := by decide +kernel
theorem dX6_takeNumber_29 : decode cX6_takeNumber 29 = .ok (.iconst 1, 1) := by decide +kernel
theorem dX6_takeNumber_30 : decode cX6_takeNumber 30 = .ok (.iadd, 1) := by decide +kernel
theorem dX6_takeNumber_31 : decode cX6_takeNumber 31 = .ok (.putfield 26, 3) := by decide +kernel
theorem dX6_takeNumber_34 : decode cX6_takeNumber 34 = .ok (.aload_n 0, 1) := by decide +kernel
theorem dX6_takeNumber_35 : decode cX6_takeNumber 35 = .ok (.invokevirtual 46, 3) := by decide +kernel
theorem dX6_takeNumber_38 : decode cX6_takeNumber 38 = .ok (.istore 4, 2) := by decide +kernel
theorem dX6_takeNumber_40 : decode cX6_takeNumber 40 = .ok (.aload_n 0, 1) := by decide +kernel
theorem dX6_takeNumber_41 : decode cX6_takeNumber 41 = .ok (.getfield 30, 3) := by decide +kernel
theorem dX6_takeNumber_44 : decode cX6_takeNumber 44 = .ok (.ldc 29, 2) := by decide +kernel
theorem dX6_takeNumber_46 : decode cX6_takeNumber 46 = .ok (.if_icmp .ne 26, 3) := by decide +kernel
theorem dX6_takeNumber_49 : decode cX6_takeNumber 49 = .ok (.iload 4, 2) := by decide +kernel
theorem dX6_takeNumber_51 : decode cX6_takeNumber 51 = .ok (.iload_n 3, 1) := by decide +kernel
theorem dX6_takeNumber_52 : decode cX6_takeNumber 52 = .ok (.ifCond .eq 8, 3) := by decide +kernel
theorem dX6_takeNumber_55 : decode cX6_takeNumber 55 = .ok (.bipush 49, 2) := by decide +kernel
theorem dX6_takeNumber_57 : decode cX6_takeNumber 57 = .ok (.goto 5, 3) := by decide +kernel
theorem dX6_takeNumber_60 : decode cX6_takeNumber 60 = .ok (.bipush 48, 2) := by decide +kernel
theorem dX6_takeNumber_62 : decode cX6_takeNumber 62 = .ok (.if_icmp .lt 10, 3) := by decide +kernel
theorem dX6_takeNumber_65 : decode cX6_takeNumber 65 = .ok (.iload 4, 2) := by decide +kernel
theorem dX6_takeNumber_67 : decode cX6_takeNumber 67 = .ok (.bipush 57, 2) := by decide +kernel
theorem dX6_takeNumber_69 : decode cX6_takeNumber 69 = .ok (.if_icmp .le 13, 3) := by decide +kernel
theorem dX6_takeNumber_72 : decode cX6_takeNumber 72 = .ok (.aload_n 0, 1) := by decide +kernel
theorem dX6_takeNumber_73 : decode cX6_takeNumber 73 = .ok (.aload_n 0, 1) := by decide +kernel
theorem dX6_takeNumber_74 : decode cX6_takeNumber 74 = .ok (.getfield 26, 3) := by decide +kernel
theorem dX6_takeNumber_77 : decode cX6_takeNumber 77 = .ok (.invokevirtual 50, 3) := by decide +kernel
theorem dX6_takeNumber_80 : decode cX6_takeNumber 80 = .ok (.iconst 0, 1) := by decide +kernel
theorem dX6_takeNumber_81 : decode cX6_takeNumber 81 = .ok (.ireturn, 1) := by decide +kernel
theorem dX6_takeNumber_82 : decode cX6_takeNumber 82 = .ok (.aload_n 0, 1) := by decide +kernel
theorem dX6_takeNumber_83 : decode cX6_takeNumber 83 = .ok (.invokevirtual 82, 3) := by decide +kernel
theorem dX6_takeNumber_86 : decode cX6_takeNumber 86 = .ok (.istore 5, 2) := by decide +kernel
theorem dX6_takeNumber_88 : decode cX6_takeNumber 88 = .ok (.iload_n 3, 1) := by decide +kernel
theorem dX6_takeNumber_89 : decode cX6_takeNumber 89 = .ok (.ifCond .eq 9, 3) := by decide +kernel
theorem dX6_takeNumber_92 : decode cX6_takeNumber 92 = .ok (.iload 5, 2) := by decide +kernel
theorem dX6_takeNumber_94 : decode cX6_takeNumber 94 = .ok (.ineg, 1) := by decide +kernel
theorem dX6_takeNumber_95 : decode cX6_takeNumber 95 = .ok (.goto 5, 3) := by decide +kernel
theorem dX6_takeNumber_98 : decode cX6_takeNumber 98 = .ok (.iload 5, 2) := by decide +kernel
theorem dX6_takeNumber_100 : decode cX6_takeNumber 100 = .ok (.istore 6, 2) := by decide +kernel
theorem dX6_takeNumber_102 : decode cX6_takeNumber 102 = .ok (.iload 5, 2) := by decide +kernel
theorem dX6_takeNumber_104 : decode cX6_takeNumber 104 = .ok (.sipush 200, 3) := by decide +kernel
theorem dX6_takeNumber_107 : decode cX6_takeNumber 107 = .ok (.if_icmp .gt 16, 3) := by decide +kernel
theorem dX6_takeNumber_110 : decode cX6_takeNumber 110 = .ok (.iload 6, 2) := by decide +kernel
theorem dX6_takeNumber_112 : decode cX6_takeNumber 112 = .ok (.iload_n 1, 1) := by decide +kernel
theorem dX6_takeNumber_113 : decode cX6_takeNumber 113 = .ok (.isub, 1) := by decide +kernel
theorem dX6_takeNumber_114 : decode cX6_takeNumber 114 = .ok (.invokestatic 85, 3) := by decide +kernel
theorem dX6_takeNumber_117 : decode cX6_takeNumber 117 = .ok (.sipush 200, 3) := by decide +kernel
theorem dX6_takeNumber_120 : decode cX6_takeNumber 120 = .ok (.if_icmp .le 8, 3) := by decide +kernel
theorem dX6_takeNumber_123 : decode cX6_takeNumber 123 = .ok (.aload_n 0, 1) := by decide +kernel
theorem dX6_takeNumber_124 : decode cX6_takeNumber 124 = .ok (.iload_n 2, 1) := by decide +kernel
theorem dX6_takeNumber_125 : decode cX6_takeNumber 125 = .ok (.invokevirtual 50, 3) := by decide +kernel
theorem dX6_takeNumber_128 : decode cX6_takeNumber 128 = .ok (.iload 6, 2) := by decide +kernel
theorem dX6_takeNumber_130 : decode cX6_takeNumber 130 = .ok (.ireturn, 1) := by decide +kernel
theorem dX6_takeDigits_0 : decode cX6_takeDigits 0 = .ok (.iconst 0, 1) := by decide +kernel
theorem dX6_takeDigits_1 : decode cX6_takeDigits 1 = .ok (.istore_n 1, 1) := by decide +kernel
theorem dX6_takeDigits_2 : decode cX6_takeDigits 2 = .ok (.iconst 0, 1) := by decide +kernel
theorem dX6_takeDigits_3 : decode cX6_takeDigits 3 = .ok (.istore_n 2, 1) := by decide +kernel
theorem dX6_takeDigits_4 : decode cX6_takeDigits 4 = .ok (.iload_n 2, 1) := by decide +kernel
theorem dX6_takeDigits_5 : decode cX6_takeDigits 5 = .ok (.bipush 120, 2) := by decide +kernel
theorem dX6_takeDigits_7 : decode cX6_takeDigits 7 = .ok (.if_icmp .ge 64, 3) := by decide +kernel
theorem dX6_takeDigits_10 : decode cX6_takeDigits 10 = .ok (.aload_n 0, 1) := by decide +kernel
theorem dX6_takeDigits_11 : decode cX6_takeDigits 11 = .ok (.invokevirtual 46, 3) := by decide +kernel
theorem dX6_takeDigits_14 : decode cX6_takeDigits 14 = .ok (.istore_n 3, 1) := by decide +kernel
theorem dX6_takeDigits_15 : decode cX6_takeDigits 15 = .ok (.iload_n 3, 1) := by decide +kernel
theorem dX6_takeDigits_16 : decode cX6_takeDigits 16 = .ok (.bipush 48, 2) := by decide +kernel
theorem dX6_takeDigits_18 : decode cX6_takeDigits 18 = .ok (.if_icmp .lt 53, 3) := by decide +kernel
theorem dX6_takeDigits_21 : decode cX6_takeDigits 21 = .ok (.iload_n 3, 1) := by decide +kernel
theorem dX6_takeDigits_22 : decode cX6_takeDigits 22 = .ok (.bipush 57, 2) := by decide +kernel
theorem dX6_takeDigits_24 : decode cX6_takeDigits 24 = .ok (.if_icmp .gt 47, 3) := by decide +kernel
theorem dX6_takeDigits_27 : decode cX6_takeDigits 27 = .ok (.iload_n 2, 1) := by decide +kernel
theorem dX6_takeDigits_28 : decode cX6_takeDigits 28 = .ok (.iconst 1, 1) := by decide +kernel
theorem dX6_takeDigits_29 : decode cX6_takeDigits 29 = .ok (.if_icmp .ne 10, 3) := by decide +kernel
theorem dX6_takeDigits_32 : decode cX6_takeDigits 32 = .ok (.iload_n 1, 1) := by decide +kernel
theorem dX6_takeDigits_33 : decode cX6_takeDigits 33 = .ok (.ifCond .ne 6, 3) := by decide +kernel
theorem dX6_takeDigits_36 : decode cX6_takeDigits 36 = .ok (.goto 35, 3) := by decide +kernel
theorem dX6_takeDigits_39 : decode cX6_takeDigits 39 = .ok (.bipush 10, 2) := by decide +kernel
theorem dX6_takeDigits_41 : decode cX6_takeDigits 41 = .ok (.iload_n 1, 1) := by decide +kernel
theorem dX6_takeDigits_42 : decode cX6_takeDigits 42 = .ok (.imul, 1) := by decide +kernel
theorem dX6_takeDigits_43 : decode cX6_takeDigits 43 = .ok (.iload_n 3, 1) := by decide +kernel
theorem dX6_takeDigits_44 : decode cX6_takeDigits 44 = .ok (.iadd, 1) := by decide +kernel
theorem dX6_takeDigits_45 : decode cX6_takeDigits 45 = .ok (.bipush 48, 2) := by decide +kernel
theorem dX6_takeDigits_47 : decode cX6_takeDigits 47 = .ok (.isub, 1) := by decide +kernel
theorem dX6_takeDigits_48 : decode cX6_takeDigits 48 = .ok (.sipush 2000, 3) := by decide +kernel
theorem dX6_takeDigits_51 : decode cX6_takeDigits 51 = .ok (.invokestatic 90, 3) := by decide +kernel
theorem dX6_takeDigits_54 : decode cX6_takeDigits 54 = .ok (.istore_n 1, 1) := by decide +kernel
theorem dX6_takeDigits_55 : decode cX6_takeDigits 55 = .ok (.aload_n 0, 1) := by decide +kernel
theorem dX6_takeDigits_56 : decode cX6_takeDigits 56 = .ok (.dup, 1) := by decide +kernel
theorem dX6_takeDigits_57 : decode cX6_takeDigits 57 = .ok (.getfield 26, 3) := by decide +kernel
theorem dX6_takeDigits_60 : decode cX6_takeDigits 60 = .ok (.iconst 1, 1) := by decide +kernel
theorem dX6_takeDigits_61 : decode cX6_takeDigits 61 = .ok (.iadd, 1) := by decide +kernel
theorem dX6_takeDigits_62 : decode cX6_takeDigits 62 = .ok (.putfield 26, 3) := by decide +kernel
theorem dX6_takeDigits_65 : decode cX6_takeDigits 65 = .ok (.iinc 2 1, 3) := by decide +kernel
theorem dX6_takeDigits_68 : decode cX6_takeDigits 68 = .ok (.goto (-64), 3) := by decide +kernel
theorem dX6_takeDigits_71 : decode cX6_takeDigits 71 = .ok (.iload_n 1, 1) := by decide +kernel
theorem dX6_takeDigits_72 : decode cX6_takeDigits 72 = .ok (.ireturn, 1) := by decide +kernel
theorem dX7_init_0 : decode cX7_init 0 = .ok (.aload_n 0, 1) := by decide +kernel
theorem dX7_init_1 : decode cX7_init 1 = .ok (.invokespecial 1, 3) := by decide +kernel
theorem dX7_init_4 : decode cX7_init 4 = .ok (.aload_n 0, 1) := by decide +kernel
theorem dX7_init_5 : decode cX7_init 5 = .ok (.new 7, 3) := by decide +kernel
theorem dX7_init_8 : decode cX7_init 8 = .ok (.dup, 1) := by decide +kernel
theorem dX7_init_9 : decode cX7_init 9 = .ok (.invokespecial 9, 3) := by decide +kernel
theorem dX7_init_12 : decode cX7_init 12 = .ok (.putfield 10, 3) := by decide +kernel
theorem dX7_init_15 : decode cX7_init 15 = .ok (.aload_n 0, 1) := by decide +kernel
theorem dX7_init_16 : decode cX7_init 16 = .ok (.iconst 2, 1) := by decide +kernel
theorem dX7_init_17 : decode cX7_init 17 = .ok (.anewarray 16, 3) := by decide +kernel
theorem dX7_init_20 : decode cX7_init 20 = .ok (.putfield 18, 3) := by decide +kernel
theorem dX7_init_23 : decode cX7_init 23 = .ok (.aload_n 0, 1) := by decide +kernel
theorem dX7_init_24 : decode cX7_init 24 = .ok (.iconst 2, 1) := by decide +kernel
theorem dX7_init_25 : decode cX7_init 25 = .ok (.newarray .boolean, 2) := by decide +kernel
theorem dX7_init_27 : decode cX7_init 27 = .ok (.putfield 22, 3) := by decide +kernel
theorem dX7_init_30 : decode cX7_init 30 = .ok (.aload_n 0, 1) := by decide +kernel
theorem dX7_init_31 : decode cX7_init 31 = .ok (.new 26, 3) := by decide +kernel
theorem dX7_init_34 : decode cX7_init 34 = .ok (.dup, 1) := by decide +kernel
theorem dX7_init_35 : decode cX7_init 35 = .ok (.invokespecial 28, 3) := by decide +kernel
theorem dX7_init_38 : decode cX7_init 38 = .ok (.putfield 29, 3) := by decide +kernel
theorem dX7_init_41 : decode cX7_init 41 = .ok (.aload_n 0, 1) := by decide +kernel
theorem dX7_init_42 : decode cX7_init 42 = .ok (.new 33, 3) := by decide +kernel
theorem dX7_init_45 : decode cX7_init 45 = .ok (.dup, 1) := by decide +kernel
theorem dX7_init_46 : decode cX7_init 46 = .ok (.invokespecial 35, 3) := by decide +kernel
theorem dX7_init_49 : decode cX7_init 49 = .ok (.putfield 36, 3) := by decide +kernel
theorem dX7_init_52 : decode cX7_init 52 = .ok (.aload_n 0, 1) := by decide +kernel
theorem dX7_init_53 : decode cX7_init 53 = .ok (.new 40, 3) := by decide +kernel
theorem dX7_init_56 : decode cX7_init 56 = .ok (.dup, 1) := by decide +kernel
theorem dX7_init_57 : decode cX7_init 57 = .ok (.invokespecial 42, 3) := by decide +kernel
theorem dX7_init_60 : decode cX7_init 60 = .ok (.putfield 43, 3) := by decide +kernel
theorem dX7_init_63 : decode cX7_init 63 = .ok (.aload_n 0, 1) := by decide +kernel
theorem dX7_init_64 : decode cX7_init 64 = .ok (.new 47, 3) := by decide +kernel
theorem dX7_init_67 : decode cX7_init 67 = .ok (.dup, 1) := by decide +kernel
theorem dX7_init_68 : decode cX7_init 68 = .ok (.invokespecial 49, 3) := by decide +kernel
theorem dX7_init_71 : decode cX7_init 71 = .ok (.putfield 50, 3) := by decide +kernel
theorem dX7_init_74 : decode cX7_init 74 = .ok (.iconst 0, 1) := by decide +kernel
theorem dX7_init_75 : decode cX7_init 75 = .ok (.istore_n 1, 1) := by decide +kernel
theorem dX7_init_76 : decode cX7_init 76 = .ok (.iload_n 1, 1) := by decide +kernel
theorem dX7_init_77 : decode cX7_init 77 = .ok (.iconst 2, 1) := by decide +kernel
theorem dX7_init_78 : decode cX7_init 78 = .ok (.if_icmp .ge 22, 3) := by decide +kernel
theorem dX7_init_81 : decode cX7_init 81 = .ok (.aload_n 0, 1) := by decide +kernel
theorem dX7_init_82 : decode cX7_init 82 = .ok (.getfield 18, 3) := by decide +kernel
theorem dX7_init_85 : decode cX7_init 85 = .ok (.iload_n 1, 1) := by decide +kernel
theorem dX7_init_86 : decode cX7_init 86 = .ok (.new 16, 3) := by decide +kernel
theorem dX7_init_89 : decode cX7_init 89 = .ok (.dup, 1) := by decide +kernel
theorem dX7_init_90 : decode cX7_init 90 = .ok (.invokespecial 54, 3) := by decide +kernel
theorem dX7_init_93 : decode cX7_init 93 = .ok (.aastore, 1) := by decide +kernel
theorem dX7_init_94 : decode cX7_init 94 = .ok (.iinc 1 1, 3) := by decide +kernel
theorem dX7_init_97 : decode cX7_init 97 = .ok (.goto (-21), 3) := by decide +kernel
theorem dX7_init_100 : decode cX7_init 100 = .ok (.return_, 1) := by decide +kernel
theorem dX7_addPath_0 : decode cX7_addPath 0 = .ok (.iload_n 1, 1) := by decide +kernel
theorem dX7_addPath_1 : decode cX7_addPath 1 = .ok (.invokestatic 55, 3) := by decide +kernel
theorem dX7_addPath_4 : decode cX7_addPath 4 = .ok (.ifCond .eq 10, 3) := by decide +kernel
theorem dX7_addPath_7 : decode cX7_addPath 7 = .ok (.iload_n 2, 1) := by decide +kernel
theorem dX7_addPath_8 : decode cX7_addPath 8 = .ok (.invokestatic 55, 3) := by decide +kernel
theorem dX7_addPath_11 : decode cX7_addPath 11 = .ok (.ifCond .ne 6, 3) := by decide +kernel
theorem dX7_addPath_14 : decode cX7_addPath 14 = .ok (.ldc 59, 2) := by decide +kernel
theorem dX7_addPath_16 : decode cX7_addPath 16 = .ok (.ireturn, 1) := by decide +kernel
theorem dX7_addPath_17 : decode cX7_addPath 17 = .ok (.aload_n 0, 1) := by decide +kernel
theorem dX7_addPath_18 : decode cX7_addPath 18 = .ok (.invokevirtual 60, 3) := by decide +kernel
theorem dX7_addPath_21 : decode cX7_addPath 21 = .ok (.invokevirtual 64, 3) := by decide +kernel
theorem dX7_addPath_24 : decode cX7_addPath 24 = .ok (.astore_n 3, 1) := by decide +kernel
theorem dX7_addPath_25 : decode cX7_addPath 25 = .ok (.aload_n 3, 1) := by decide +kernel
theorem dX7_addPath_26 : decode cX7_addPath 26 = .ok (.ifnonnull 6, 3) := by decide +kernel
theorem dX7_addPath_29 : decode cX7_addPath 29 = .ok (.ldc 68, 2) := by decide +kernel
theorem dX7_addPath_31 : decode cX7_addPath 31 = .ok (.ireturn, 1) := by decide +kernel
theorem dX7_addPath_32 : decode cX7_addPath 32 = .ok (.aload_n 3, 1) := by decide +kernel
theorem dX7_addPath_33 : decode cX7_addPath 33 = .ok (.iload_n 1, 1) := by decide +kernel
theorem dX7_addPath_34 : decode cX7_addPath 34 = .ok (.ldc 69, 2) := by decide +kernel
theorem dX7_addPath_36 : decode cX7_addPath 36 = .ok (.imul, 1) := by decide +kernel
theorem dX7_addPath_37 : decode cX7_addPath 37 = .ok (.iload_n 2, 1) := by decide +kernel
theorem dX7_addPath_38 : decode cX7_addPath 38 = .ok (.ldc 69, 2) := by decide +kernel
theorem dX7_addPath_40 : decode cX7_addPath 40 = .ok (.imul, 1) := by decide +kernel
theorem dX7_addPath_41 : decode cX7_addPath 41 = .ok (.invokevirtual 70, 3) := by decide +kernel
theorem dX7_addPath_44 : decode cX7_addPath 44 = .ok (.aload_n 0, 1) := by decide +kernel
theorem dX7_addPath_45 : decode cX7_addPath 45 = .ok (.aload_n 0, 1) := by decide +kernel
theorem dX7_addPath_46 : decode cX7_addPath 46 = .ok (.getfield 10, 3) := by decide +kernel
theorem dX7_addPath_49 : decode cX7_addPath 49 = .ok (.invokevirtual 76, 3) := by decide +kernel
theorem dX7_addPath_52 : decode cX7_addPath 52 = .ok (.getfield 79, 3) := by decide +kernel
theorem dX7_addPath_55 : decode cX7_addPath 55 = .ok (.invokevirtual 83, 3) := by decide +kernel
theorem dX7_addPath_58 : decode cX7_addPath 58 = .ok (.ireturn, 1) := by decide +kernel
theorem dX7_extend_0 : decode cX7_extend 0 = .ok (.aload_n 0, 1) := by decide +kernel
theorem dX7_extend_1 : decode cX7_extend 1 = .ok (.invokevirtual 60, 3) := by decide +kernel
theorem dX7_extend_4 : decode cX7_extend 4 = .ok (.iload_n 1, 1) := by decide +kernel
theorem dX7_extend_5 : decode cX7_extend 5 = .ok (.invokevirtual 87, 3) := by decide +kernel
theorem dX7_extend_8 : decode cX7_extend 8 = .ok (.astore 4, 2) := by decide +kernel
theorem dX7_extend_10 : decode cX7_extend 10 = .ok (.aload 4, 2) := by decide +kernel
theorem dX7_extend_12 : decode cX7_extend 12 = .ok (.ifnonnull 6, 3) := by decide +kernel
theorem dX7_extend_15 : decode cX7_extend 15 = .ok (.ldc 91, 2) := by decide +kernel
theorem dX7_extend_17 : decode cX7_extend 17 = .ok (.ireturn, 1) := by decide +kernel
theorem dX7_extend_18 : decode cX7_extend 18 = .ok (.iload_n 2, 1) := by decide +kernel
theorem dX7_extend_19 : decode cX7_extend 19 = .ok (.invokestatic 55, 3) := by decide +kernel
theorem dX7_extend_22 : decode cX7_extend 22 = .ok (.ifCond .eq 10, 3) := by decide +kernel
theorem dX7_extend_25 : decode cX7_extend 25 = .ok (.iload_n 3, 1) := by decide +kernel
theorem dX7_extend_26 : decode cX7_extend 26 = .ok (.invokestatic 55, 3) := by decide +kernel
theorem dX7_extend_29 : decode cX7_extend 29 = .ok (.ifCond .ne 6, 3) := by decide +kernel
theorem dX7_extend_32 : decode cX7_extend 32 = .ok (.ldc 59, 2) := by decide +kernel
theorem dX7_extend_34 : decode cX7_extend 34 = .ok (.ireturn, 1) := by decide +kernel
theorem dX7_extend_35 : decode cX7_extend 35 = .ok (.aload 4, 2) := by decide +kernel
theorem dX7_extend_37 : decode cX7_extend 37 = .ok (.getfield 92, 3) := by decide +kernel
theorem dX7_extend_40 : decode cX7_extend 40 = .ok (.ifCond .eq 6, 3) := by decide +kernel
theorem dX7_extend_43 : decode cX7_extend 43 = .ok (.ldc 96, 2) := by decide +kernel
theorem dX7_extend_45 : decode cX7_extend 45 = .ok (.ireturn, 1) := by decide +kernel
theorem dX7_extend_46 : decode cX7_extend 46 = .ok (.aload 4, 2) := by decide +kernel
theorem dX7_extend_48 : decode cX7_extend 48 = .ok (.getfield 97, 3) := by decide +kernel
theorem dX7_extend_51 : decode cX7_extend 51 = .ok (.bipush 12, 2) := by decide +kernel
theorem dX7_extend_53 : decode cX7_extend 53 = .ok (.if_icmp .lt 6, 3) := by decide +kernel
theorem dX7_extend_56 : decode cX7_extend 56 = .ok (.ldc 68, 2) := by decide +kernel
theorem dX7_extend_58 : decode cX7_extend 58 = .ok (.ireturn, 1) := by decide +kernel
theorem dX7_extend_59 : decode cX7_extend 59 = .ok (.aload 4, 2) := by decide +kernel
theorem dX7_extend_61 : decode cX7_extend 61 = .ok (.iload_n 2, 1) := by decide +kernel
theorem dX7_extend_62 : decode cX7_extend 62 = .ok (.ldc 69, 2) := by decide +kernel
theorem dX7_extend_64 : decode cX7_extend 64 = .ok (.imul, 1) := by decide +kernel
theorem dX7_extend_65 : decode cX7_extend 65 = .ok (.iload_n 3, 1) := by decide +kernel
theorem dX7_extend_66 : decode cX7_extend 66 = .ok (.ldc 69, 2) := by decide +kernel
theorem dX7_extend_68 : decode cX7_extend 68 = .ok (.imul, 1) := by decide +kernel
theorem dX7_extend_69 : decode cX7_extend 69 = .ok (.invokevirtual 70, 3) := by decide +kernel
theorem dX7_extend_72 : decode cX7_extend 72 = .ok (.aload_n 0, 1) := by decide +kernel
theorem dX7_extend_73 : decode cX7_extend 73 = .ok (.aload 4, 2) := by decide +kernel
theorem dX7_extend_75 : decode cX7_extend 75 = .ok (.getfield 97, 3) := by decide +kernel
theorem dX7_extend_78 : decode cX7_extend 78 = .ok (.invokevirtual 83, 3) := by decide +kernel
theorem dX7_extend_81 : decode cX7_extend 81 = .ok (.ireturn, 1) := by decide +kernel
theorem dX7_removePath_0 : decode cX7_removePath 0 = .ok (.aload_n 0, 1) := by decide +kernel
theorem dX7_removePath_1 : decode cX7_removePath 1 = .ok (.invokevirtual 60, 3) := by decide +kernel
theorem dX7_removePath_4 : decode cX7_removePath 4 = .ok (.astore_n 2, 1) := by decide +kernel
theorem dX7_removePath_5 : decode cX7_removePath 5 = .ok (.aload_n 2, 1) := by decide +kernel
theorem dX7_removePath_6 : decode cX7_removePath 6 = .ok (.iload_n 1, 1) := by decide +kernel
theorem dX7_removePath_7 : decode cX7_removePath 7 = .ok (.invokevirtual 87, 3) := by decide +kernel
theorem dX7_removePath_10 : decode cX7_removePath 10 = .ok (.ifnonnull 6, 3) := by decide +kernel
theorem dX7_removePath_13 : decode cX7_removePath 13 = .ok (.ldc 91, 2) := by decide +kernel
theorem dX7_removePath_15 : decode cX7_removePath 15 = .ok (.ireturn, 1) := by decide +kernel
theorem dX7_removePath_16 : decode cX7_removePath 16 = .ok (.aload_n 2, 1) := by decide +kernel
theorem dX7_removePath_17 : decode cX7_removePath 17 = .ok (.iload_n 1, 1) := by decide +kernel
theorem dX7_removePath_18 : decode cX7_removePath 18 = .ok (.invokevirtual 100, 3) := by decide +kernel
theorem dX7_removePath_21 : decode cX7_removePath 21 = .ok (.aload_n 0, 1) := by decide +kernel
theorem dX7_removePath_22 : decode cX7_removePath 22 = .ok (.aload_n 2, 1) := by decide +kernel
theorem dX7_removePath_23 : decode cX7_removePath 23 = .ok (.getfield 79, 3) := by decide +kernel
theorem dX7_removePath_26 : decode cX7_removePath 26 = .ok (.invokevirtual 83, 3) := by decide +kernel
theorem dX7_removePath_29 : decode cX7_removePath 29 = .ok (.ireturn, 1) := by decide +kernel
theorem dX7_moveNode_0 : decode cX7_moveNode 0 = .ok (.aload_n 0, 1) := by decide +kernel
theorem dX7_moveNode_1 : decode cX7_moveNode 1 = .ok (.invokevirtual 60, 3) := by decide +kernel
theorem dX7_moveNode_4 : decode cX7_moveNode 4 = .ok (.iload_n 1, 1) := by decide +kernel
theorem dX7_moveNode_5 : decode cX7_moveNode 5 = .ok (.invokevirtual 87, 3) := by decide +kernel
theorem dX7_moveNode_8 : decode cX7_moveNode 8 = .ok (.astore 5, 2) := by decide +kernel
theorem dX7_moveNode_10 : decode cX7_moveNode 10 = .ok (.aload 5, 2) := by decide +kernel
theorem dX7_moveNode_12 : decode cX7_moveNode 12 = .ok (.ifnull 12, 3) := by decide +kernel
theorem dX7_moveNode_15 : decode cX7_moveNode 15 = .ok (.aload 5, 2) := by decide +kernel
theorem dX7_moveNode_17 : decode cX7_moveNode 17 = .ok (.iload_n 2, 1) := by decide +kernel
theorem dX7_moveNode_18 : decode cX7_moveNode 18 = .ok (.invokevirtual 104, 3) := by decide +kernel
theorem dX7_moveNode_21 : decode cX7_moveNode 21 = .ok (.ifCond .ne 6, 3) := by decide +kernel
theorem dX7_moveNode_24 : decode cX7_moveNode 24 = .ok (.ldc 91, 2) := by decide +kernel
theorem dX7_moveNode_26 : decode cX7_moveNode 26 = .ok (.ireturn, 1) := by decide +kernel
theorem dX7_moveNode_27 : decode cX7_moveNode 27 = .ok (.iload_n 3, 1) := by decide +kernel
theorem dX7_moveNode_28 : decode cX7_moveNode 28 = .ok (.invokestatic 55, 3) := by decide +kernel
theorem dX7_moveNode_31 : decode cX7_moveNode 31 = .ok (.ifCond .eq 11, 3) := by decide +kernel
theorem dX7_moveNode_34 : decode cX7_moveNode 34 = .ok (.iload 4, 2) := by decide +kernel
theorem dX7_moveNode_36 : decode cX7_moveNode 36 = .ok (.invokestatic 55, 3) := by decide +kernel
theorem dX7_moveNode_39 : decode cX7_moveNode 39 = .ok (.ifCond .ne 6, 3) := by decide +kernel
theorem dX7_moveNode_42 : decode cX7_moveNode 42 = .ok (.ldc 59, 2) := by decide +kernel
theorem dX7_moveNode_44 : decode cX7_moveNode 44 = .ok (.ireturn, 1) := by decide +kernel
theorem dX7_moveNode_45 : decode cX7_moveNode 45 = .ok (.aload 5, 2) := by decide +kernel
theorem dX7_moveNode_47 : decode cX7_moveNode 47 = .ok (.iload_n 2, 1) := by decide +kernel
theorem dX7_moveNode_48 : decode cX7_moveNode 48 = .ok (.iload_n 3, 1) := by decide +kernel
theorem dX7_moveNode_49 : decode cX7_moveNode 49 = .ok (.ldc 69, 2) := by decide +kernel
theorem dX7_moveNode_51 : decode cX7_moveNode 51 = .ok (.imul, 1) := by decide +kernel
theorem dX7_moveNode_52 : decode cX7_moveNode 52 = .ok (.iload 4, 2) := by decide +kernel
theorem dX7_moveNode_54 : decode cX7_moveNode 54 = .ok (.ldc 69, 2) := by decide +kernel
theorem dX7_moveNode_56 : decode cX7_moveNode 56 = .ok (.imul, 1) := by decide +kernel
theorem dX7_moveNode_57 : decode cX7_moveNode 57 = .ok (.aload_n 0, 1) := by decide +kernel
theorem dX7_moveNode_58 : decode cX7_moveNode 58 = .ok (.getfield 29, 3) := by decide +kernel
theorem dX7_moveNode_61 : decode cX7_moveNode 61 = .ok (.invokevirtual 107, 3) := by decide +kernel
theorem dX7_moveNode_64 : decode cX7_moveNode 64 = .ok (.aload_n 0, 1) := by decide +kernel
theorem dX7_moveNode_65 : decode cX7_moveNode 65 = .ok (.aload 5, 2) := by decide +kernel
theorem dX7_moveNode_67 : decode cX7_moveNode 67 = .ok (.iload_n 2, 1) := by decide +kernel
theorem dX7_moveNode_68 : decode cX7_moveNode 68 = .ok (.iconst 0, 1) := by decide +kernel
theorem dX7_moveNode_69 : decode cX7_moveNode 69 = .ok (.invokevirtual 111, 3) := by decide +kernel
theorem dX7_moveNode_72 : decode cX7_moveNode 72 = .ok (.invokevirtual 83, 3) := by decide +kernel
theorem dX7_moveNode_75 : decode cX7_moveNode 75 = .ok (.ireturn, 1) := by decide +kernel
theorem dX7_setHandle_0 : decode cX7_setHandle 0 = .ok (.aload_n 0, 1) := by decide +kernel
theorem dX7_setHandle_1 : decode cX7_setHandle 1 = .ok (.invokevirtual 60, 3) := by decide +kernel
theorem dX7_setHandle_4 : decode cX7_setHandle 4 = .ok (.iload_n 1, 1) := by decide +kernel
theorem dX7_setHandle_5 : decode cX7_setHandle 5 = .ok (.invokevirtual 87, 3) := by decide +kernel
theorem dX7_setHandle_8 : decode cX7_setHandle 8 = .ok (.astore 6, 2) := by decide +kernel
theorem dX7_setHandle_10 : decode cX7_setHandle 10 = .ok (.aload 6, 2) := by decide +kernel
theorem dX7_setHandle_12 : decode cX7_setHandle 12 = .ok (.ifnull 12, 3) := by decide +kernel
theorem dX7_setHandle_15 : decode cX7_setHandle 15 = .ok (.aload 6, 2) := by decide +kernel
theorem dX7_setHandle_17 : decode cX7_setHandle 17 = .ok (.iload_n 2, 1) := by decide +kernel
theorem dX7_setHandle_18 : decode cX7_setHandle 18 = .ok (.invokevirtual 104, 3) := by decide +kernel
theorem dX7_setHandle_21 : decode cX7_setHandle 21 = .ok (.ifCond .ne 6, 3) := by decide +kernel
theorem dX7_setHandle_24 : decode cX7_setHandle 24 = .ok (.ldc 91, 2) := by decide +kernel
theorem dX7_setHandle_26 : decode cX7_setHandle 26 = .ok (.ireturn, 1) := by decide +kernel
theorem dX7_setHandle_27 : decode cX7_setHandle 27 = .ok (.iload 4, 2) := by decide +kernel
theorem dX7_setHandle_29 : decode cX7_setHandle 29 = .ok (.invokestatic 55, 3) := by decide +kernel
theorem dX7_setHandle_32 : decode cX7_setHandle 32 = .ok (.ifCond .eq 11, 3) := by decide +kernel
theorem dX7_setHandle_35 : decode cX7_setHandle 35 = .ok (.iload 5, 2) := by decide +kernel
theorem dX7_setHandle_37 : decode cX7_setHandle 37 = .ok (.invokestatic 55, 3) := by decide +kernel
theorem dX7_setHandle_40 : decode cX7_setHandle 40 = .ok (.ifCond .ne 6, 3) := by decide +kernel
theorem dX7_setHandle_43 : decode cX7_setHandle 43 = .ok (.ldc 59, 2) := by decide +kernel
theorem dX7_setHandle_45 : decode cX7_setHandle 45 = .ok (.ireturn, 1) := by decide +kernel
theorem dX7_setHandle_46 : decode cX7_setHandle 46 = .ok (.iload_n 3, 1) := by decide +kernel
theorem dX7_setHandle_47 : decode cX7_setHandle 47 = .ok (.ifCond .eq 7, 3) := by decide +kernel
theorem dX7_setHandle_50 : decode cX7_setHandle 50 = .ok (.iconst 4, 1) := by decide +kernel
theorem dX7_setHandle_51 : decode cX7_setHandle 51 = .ok (.goto 4, 3) := by decide +kernel
theorem dX7_setHandle_54 : decode cX7_setHandle 54 = .ok (.iconst 2, 1) := by decide +kernel
theorem dX7_setHandle_55 : decode cX7_setHandle 55 = .ok (.istore 7, 2) := by decide +kernel
theorem dX7_setHandle_57 : decode cX7_setHandle 57 = .ok (.aload 6, 2) := by decide +kernel
theorem dX7_setHandle_59 : decode cX7_setHandle 59 = .ok (.iload_n 2, 1) := by decide +kernel
theorem dX7_setHandle_60 : decode cX7_setHandle 60 = .ok (.iload 7, 2) := by decide +kernel
theorem dX7_setHandle_62 : decode cX7_setHandle 62 = .ok (.iload 4, 2) := by decide +kernel
theorem dX7_setHandle_64 : decode cX7_setHandle 64 = .ok (.ldc 69, 2) := by decide +kernel
theorem dX7_setHandle_66 : decode cX7_setHandle 66 = .ok (.imul, 1) := by decide +kernel
theorem dX7_setHandle_67 : decode cX7_setHandle 67 = .ok (.invokevirtual 115, 3) := by decide +kernel
theorem dX7_setHandle_70 : decode cX7_setHandle 70 = .ok (.aload 6, 2) := by decide +kernel
theorem dX7_setHandle_72 : decode cX7_setHandle 72 = .ok (.iload_n 2, 1) := by decide +kernel
theorem dX7_setHandle_73 : decode cX7_setHandle 73 = .ok (.iload 7, 2) := by decide +kernel
theorem dX7_setHandle_75 : decode cX7_setHandle 75 = .ok (.iconst 1, 1) := by decide +kernel
theorem dX7_setHandle_76 : decode cX7_setHandle 76 = .ok (.iadd, 1) := by decide +kernel
theorem dX7_setHandle_77 : decode cX7_setHandle 77 = .ok (.iload 5, 2) := by decide +kernel
theorem dX7_setHandle_79 : decode cX7_setHandle 79 = .ok (.ldc 69, 2) := by decide +kernel
theorem dX7_setHandle_81 : decode cX7_setHandle 81 = .ok (.imul, 1) := by decide +kernel
theorem dX7_setHandle_82 : decode cX7_setHandle 82 = .ok (.invokevirtual 115, 3) := by decide +kernel
theorem dX7_setHandle_85 : decode cX7_setHandle 85 = .ok (.aload 6, 2) := by decide +kernel
theorem dX7_setHandle_87 : decode cX7_setHandle 87 = .ok (.iload_n 2, 1) := by decide +kernel
theorem dX7_setHandle_88 : decode cX7_setHandle 88 = .ok (.invokevirtual 119, 3) := by decide +kernel
theorem dX7_setHandle_91 : decode cX7_setHandle 91 = .ok (.istore 8, 2) := by decide +kernel
theorem dX7_setHandle_93 : decode cX7_setHandle 93 = .ok (.iload 8, 2) := by decide +kernel
theorem dX7_setHandle_95 : decode cX7_setHandle 95 = .ok (.ifCond .eq 22, 3) := by decide +kernel
theorem dX7_setHandle_98 : decode cX7_setHandle 98 = .ok (.aload 6, 2) := by decide +kernel
theorem dX7_setHandle_100 : decode cX7_setHandle 100 = .ok (.iload_n 2, 1) := by decide +kernel
theorem dX7_setHandle_101 : decode cX7_setHandle 101 = .ok (.iload_n 3, 1) := by decide +kernel
theorem dX7_setHandle_102 : decode cX7_setHandle 102 = .ok (.ifCond .ne 7, 3) := by decide +kernel
theorem dX7_setHandle_105 : decode cX7_setHandle 105 = .ok (.iconst 1, 1) := by decide +kernel
theorem dX7_setHandle_106 : decode cX7_setHandle 106 = .ok (.goto 4, 3) := by decide +kernel
theorem dX7_setHandle_109 : decode cX7_setHandle 109 = .ok (.iconst 0, 1) := by decide +kernel
theorem dX7_setHandle_110 : decode cX7_setHandle 110 = .ok (.aload_n 0, 1) := by decide +kernel
theorem dX7_setHandle_111 : decode cX7_setHandle 111 = .ok (.getfield 29, 3) := by decide +kernel
theorem dX7_setHandle_114 : decode cX7_setHandle 114 = .ok (.invokevirtual 122, 3) := by decide +kernel
theorem dX7_setHandle_117 : decode cX7_setHandle 117 = .ok (.aload_n 0, 1) := by decide +kernel
theorem dX7_setHandle_118 : decode cX7_setHandle 118 = .ok (.iload 8, 2) := by decide +kernel
theorem dX7_setHandle_120 : decode cX7_setHandle 120 = .ok (.ifCond .eq 7, 3) := by decide +kernel
theorem dX7_setHandle_123 : decode cX7_setHandle 123 = .ok (.iconst 1, 1) := by decide +kernel
theorem dX7_setHandle_124 : decode cX7_setHandle 124 = .ok (.goto 4, 3) := by decide +kernel
theorem dX7_setHandle_127 : decode cX7_setHandle 127 = .ok (.iconst 0, 1) := by decide +kernel
theorem dX7_setHandle_128 : decode cX7_setHandle 128 = .ok (.invokevirtual 83, 3) := by decide +kernel
theorem dX7_setHandle_131 : decode cX7_setHandle 131 = .ok (.ireturn, 1) := by decide +kernel
theorem dX7_setSmooth_0 : decode cX7_setSmooth 0 = .ok (.aload_n 0, 1) := by decide +kernel
theorem dX7_setSmooth_1 : decode cX7_setSmooth 1 = .ok (.invokevirtual 60, 3) := by decide +kernel
theorem dX7_setSmooth_4 : decode cX7_setSmooth 4 = .ok (.iload_n 1, 1) := by decide +kernel
theorem dX7_setSmooth_5 : decode cX7_setSmooth 5 = .ok (.invokevirtual 87, 3) := by decide +kernel
theorem dX7_setSmooth_8 : decode cX7_setSmooth 8 = .ok (.astore 5, 2) := by decide +kernel
theorem dX7_setSmooth_10 : decode cX7_setSmooth 10 = .ok (.aload 5, 2) := by decide +kernel
theorem dX7_setSmooth_12 : decode cX7_setSmooth 12 = .ok (.ifnull 12, 3) := by decide +kernel
theorem dX7_setSmooth_15 : decode cX7_setSmooth 15 = .ok (.aload 5, 2) := by decide +kernel
theorem dX7_setSmooth_17 : decode cX7_setSmooth 17 = .ok (.iload_n 2, 1) := by decide +kernel
theorem dX7_setSmooth_18 : decode cX7_setSmooth 18 = .ok (.invokevirtual 104, 3) := by decide +kernel
theorem dX7_setSmooth_21 : decode cX7_setSmooth 21 = .ok (.ifCond .ne 6, 3) := by decide +kernel
theorem dX7_setSmooth_24 : decode cX7_setSmooth 24 = .ok (.ldc 91, 2) := by decide +kernel
theorem dX7_setSmooth_26 : decode cX7_setSmooth 26 = .ok (.ireturn, 1) := by decide +kernel
theorem dX7_setSmooth_27 : decode cX7_setSmooth 27 = .ok (.iload_n 3, 1) := by decide +kernel
theorem dX7_setSmooth_28 : decode cX7_setSmooth 28 = .ok (.iconst 1, 1) := by decide +kernel
theorem dX7_setSmooth_29 : decode cX7_setSmooth 29 = .ok (.sipush 999, 3) := by decide +kernel
theorem dX7_setSmooth_32 : decode cX7_setSmooth 32 = .ok (.invokestatic 126, 3) := by decide +kernel
theorem dX7_setSmooth_35 : decode cX7_setSmooth 35 = .ok (.ifCond .eq 15, 3) := by decide +kernel
theorem dX7_setSmooth_38 : decode cX7_setSmooth 38 = .ok (.iload 4, 2) := by decide +kernel
theorem dX7_setSmooth_40 : decode cX7_setSmooth 40 = .ok (.iconst 1, 1) := by decide +kernel
theorem dX7_setSmooth_41 : decode cX7_setSmooth 41 = .ok (.sipush 999, 3) := by decide +kernel
theorem dX7_setSmooth_44 : decode cX7_setSmooth 44 = .ok (.invokestatic 126, 3) := by decide +kernel
theorem dX7_setSmooth_47 : decode cX7_setSmooth 47 = .ok (.ifCond .ne 6, 3) := by decide +kernel
theorem dX7_setSmooth_50 : decode cX7_setSmooth 50 = .ok (.ldc 59, 2) := by decide +kernel
theorem dX7_setSmooth_52 : decode cX7_setSmooth 52 = .ok (.ireturn, 1) := by decide +kernel
theorem dX7_setSmooth_53 : decode cX7_setSmooth 53 = .ok (.aload 5, 2) := by decide +kernel
theorem dX7_setSmooth_55 : decode cX7_setSmooth 55 = .ok (.iload_n 2, 1) := by decide +kernel
theorem dX7_setSmooth_56 : decode cX7_setSmooth 56 = .ok (.invokevirtual 119, 3) := by decide +kernel
theorem dX7_setSmooth_59 : decode cX7_setSmooth 59 = .ok (.istore 6, 2) := by decide +kernel
theorem dX7_setSmooth_61 : decode cX7_setSmooth 61 = .ok (.aload 5, 2) := by decide +kernel
theorem dX7_setSmooth_63 : decode cX7_setSmooth 63 = .ok (.iload_n 2, 1) := by decide +kernel
theorem dX7_setSmooth_64 : decode cX7_setSmooth 64 = .ok (.iload_n 3, 1) := by decide +kernel
theorem dX7_setSmooth_65 : decode cX7_setSmooth 65 = .ok (.iload 4, 2) := by decide +kernel
theorem dX7_setSmooth_67 : decode cX7_setSmooth 67 = .ok (.invokevirtual 130, 3) := by decide +kernel
theorem dX7_setSmooth_70 : decode cX7_setSmooth 70 = .ok (.aload 5, 2) := by decide +kernel
theorem dX7_setSmooth_72 : decode cX7_setSmooth 72 = .ok (.iload_n 2, 1) := by decide +kernel
theorem dX7_setSmooth_73 : decode cX7_setSmooth 73 = .ok (.aload 5, 2) := by decide +kernel
theorem dX7_setSmooth_75 : decode cX7_setSmooth 75 = .ok (.iload_n 2, 1) := by decide +kernel
theorem dX7_setSmooth_76 : decode cX7_setSmooth 76 = .ok (.iconst 4, 1) := by decide +kernel
theorem dX7_setSmooth_77 : decode cX7_setSmooth 77 = .ok (.invokevirtual 133, 3) := by decide +kernel
theorem dX7_setSmooth_80 : decode cX7_setSmooth 80 = .ok (.aload_n 0, 1) := by decide +kernel
theorem dX7_setSmooth_81 : decode cX7_setSmooth 81 = .ok (.getfield 29, 3) := by decide +kernel
theorem dX7_setSmooth_84 : decode cX7_setSmooth 84 = .ok (.invokevirtual 122, 3) := by decide +kernel
theorem dX7_setSmooth_87 : decode cX7_setSmooth 87 = .ok (.aload_n 0, 1) := by decide +kernel
theorem dX7_setSmooth_88 : decode cX7_setSmooth 88 = .ok (.iload 6, 2) := by decide +kernel
theorem dX7_setSmooth_90 : decode cX7_setSmooth 90 = .ok (.ifCond .eq 7, 3) := by decide +kernel
theorem dX7_setSmooth_93 : decode cX7_setSmooth 93 = .ok (.iconst 1, 1) := by decide +kernel
theorem dX7_setSmooth_94 : decode cX7_setSmooth 94 = .ok (.goto 4, 3) := by decide +kernel
theorem dX7_setSmooth_97 : decode cX7_setSmooth 97 = .ok (.iconst 0, 1) := by decide +kernel
theorem dX7_setSmooth_98 : decode cX7_setSmooth 98 = .ok (.invokevirtual 83, 3) := by decide +kernel
theorem dX7_setSmooth_101 : decode cX7_setSmooth 101 = .ok (.ireturn, 1) := by decide +kernel
theorem dX7_setCorner_0 : decode cX7_setCorner 0 = .ok (.aload_n 0, 1) := by decide +kernel
theorem dX7_setCorner_1 : decode cX7_setCorner 1 = .ok (.invokevirtual 60, 3) := by decide +kernel
theorem dX7_setCorner_4 : decode cX7_setCorner 4 = .ok (.iload_n 1, 1) := by decide +kernel
theorem dX7_setCorner_5 : decode cX7_setCorner 5 = .ok (.invokevirtual 87, 3) := by decide +kernel
theorem dX7_setCorner_8 : decode cX7_setCorner 8 = .ok (.astore_n 3, 1) := by decide +kernel
theorem dX7_setCorner_9 : decode cX7_setCorner 9 = .ok (.aload_n 3, 1) := by decide +kernel
theorem dX7_setCorner_10 : decode cX7_setCorner 10 = .ok (.ifnull 11, 3) := by decide +kernel
theorem dX7_setCorner_13 : decode cX7_setCorner 13 = .ok (.aload_n 3, 1) := by decide +kernel
theorem dX7_setCorner_14 : decode cX7_setCorner 14 = .ok (.iload_n 2, 1) := by decide +kernel
theorem dX7_setCorner_15 : decode cX7_setCorner 15 = .ok (.invokevirtual 104, 3) := by decide +kernel
theorem dX7_setCorner_18 : decode cX7_setCorner 18 = .ok (.ifCond .ne 6, 3) := by decide +kernel
theorem dX7_setCorner_21 : decode cX7_setCorner 21 = .ok (.ldc 91, 2) := by decide +kernel
theorem dX7_setCorner_23 : decode cX7_setCorner 23 = .ok (.ireturn, 1) := by decide +kernel
theorem dX7_setCorner_24 : decode cX7_setCorner 24 = .ok (.aload_n 3, 1) := by decide +kernel
theorem dX7_setCorner_25 : decode cX7_setCorner 25 = .ok (.iload_n 2, 1) := by decide +kernel
theorem dX7_setCorner_26 : decode cX7_setCorner 26 = .ok (.invokevirtual 119, 3) := by decide +kernel
theorem dX7_setCorner_29 : decode cX7_setCorner 29 = .ok (.istore 4, 2) := by decide +kernel
theorem dX7_setCorner_31 : decode cX7_setCorner 31 = .ok (.aload_n 3, 1) := by decide +kernel
theorem dX7_setCorner_32 : decode cX7_setCorner 32 = .ok (.iload_n 2, 1) := by decide +kernel
theorem dX7_setCorner_33 : decode cX7_setCorner 33 = .ok (.invokevirtual 137, 3) := by decide +kernel
theorem dX7_setCorner_36 : decode cX7_setCorner 36 = .ok (.aload_n 0, 1) := by decide +kernel
theorem dX7_setCorner_37 : decode cX7_setCorner 37 = .ok (.iload 4, 2) := by decide +kernel
theorem dX7_setCorner_39 : decode cX7_setCorner 39 = .ok (.ifCond .eq 7, 3) := by decide +kernel
theorem dX7_setCorner_42 : decode cX7_setCorner 42 = .ok (.iconst 1, 1) := by decide +kernel
theorem dX7_setCorner_43 : decode cX7_setCorner 43 = .ok (.goto 4, 3) := by decide +kernel
theorem dX7_setCorner_46 : decode cX7_setCorner 46 = .ok (.iconst 0, 1) := by decide +kernel
theorem dX7_setCorner_47 : decode cX7_setCorner 47 = .ok (.invokevirtual 83, 3) := by decide +kernel
theorem dX7_setCorner_50 : decode cX7_setCorner 50 = .ok (.ireturn, 1) := by decide +kernel
theorem dX7_insert_0 : decode cX7_insert 0 = .ok (.aload_n 0, 1) := by decide +kernel
theorem dX7_insert_1 : decode cX7_insert 1 = .ok (.invokevirtual 60, 3) := by decide +kernel
theorem dX7_insert_4 : decode cX7_insert 4 = .ok (.iload_n 1, 1) := by decide +kernel
theorem dX7_insert_5 : decode cX7_insert 5 = .ok (.invokevirtual 87, 3) := by decide +kernel
theorem dX7_insert_8 : decode cX7_insert 8 = .ok (.astore 5, 2) := by decide +kernel
theorem dX7_insert_10 : decode cX7_insert 10 = .ok (.aload 5, 2) := by decide +kernel
theorem dX7_insert_12 : decode cX7_insert 12 = .ok (.ifnull 12, 3) := by decide +kernel
theorem dX7_insert_15 : decode cX7_insert 15 = .ok (.aload 5, 2) := by decide +kernel
theorem dX7_insert_17 : decode cX7_insert 17 = .ok (.iload_n 2, 1) := by decide +kernel
theorem dX7_insert_18 : decode cX7_insert 18 = .ok (.invokevirtual 140, 3) := by decide +kernel
theorem dX7_insert_21 : decode cX7_insert 21 = .ok (.ifCond .ne 6, 3) := by decide +kernel
theorem dX7_insert_24 : decode cX7_insert 24 = .ok (.ldc 91, 2) := by decide +kernel
theorem dX7_insert_26 : decode cX7_insert 26 = .ok (.ireturn, 1) := by decide +kernel
theorem dX7_insert_27 : decode cX7_insert 27 = .ok (.iload 4, 2) := by decide +kernel
theorem dX7_insert_29 : decode cX7_insert 29 = .ok (.iconst 2, 1) := by decide +kernel
theorem dX7_insert_30 : decode cX7_insert 30 = .ok (.bipush 6, 2) := by decide +kernel
theorem dX7_insert_32 : decode cX7_insert 32 = .ok (.invokestatic 126, 3) := by decide +kernel
theorem dX7_insert_35 : decode cX7_insert 35 = .ok (.ifCond .eq 15, 3) := by decide +kernel
theorem dX7_insert_38 : decode cX7_insert 38 = .ok (.iload_n 3, 1) := by decide +kernel
theorem dX7_insert_39 : decode cX7_insert 39 = .ok (.iconst 1, 1) := by decide +kernel
theorem dX7_insert_40 : decode cX7_insert 40 = .ok (.iload 4, 2) := by decide +kernel
theorem dX7_insert_42 : decode cX7_insert 42 = .ok (.iconst 1, 1) := by decide +kernel
theorem dX7_insert_43 : decode cX7_insert 43 = .ok (.isub, 1) := by decide +kernel
theorem dX7_insert_44 : decode cX7_insert 44 = .ok (.invokestatic 126, 3) := by decide +kernel
theorem dX7_insert_47 : decode cX7_insert 47 = .ok (.ifCond .ne 6, 3) := by decide +kernel
theorem dX7_insert_50 : decode cX7_insert 50 = .ok (.ldc 59, 2) := by decide +kernel
theorem dX7_insert_52 : decode cX7_insert 52 = .ok (.ireturn, 1) := by decide +kernel
theorem dX7_insert_53 : decode cX7_insert 53 = .ok (.aload 5, 2) := by decide +kernel
theorem dX7_insert_55 : decode cX7_insert 55 = .ok (.getfield 97, 3) := by decide +kernel
theorem dX7_insert_58 : decode cX7_insert 58 = .ok (.bipush 12, 2) := by decide +kernel
theorem dX7_insert_60 : decode cX7_insert 60 = .ok (.if_icmp .lt 6, 3) := by decide +kernel
theorem dX7_insert_63 : decode cX7_insert 63 = .ok (.ldc 68, 2) := by decide +kernel
theorem dX7_insert_65 : decode cX7_insert 65 = .ok (.ireturn, 1) := by decide +kernel
theorem dX7_insert_66 : decode cX7_insert 66 = .ok (.aload 5, 2) := by decide +kernel
theorem dX7_insert_68 : decode cX7_insert 68 = .ok (.iload_n 2, 1) := by decide +kernel
theorem dX7_insert_69 : decode cX7_insert 69 = .ok (.iload_n 3, 1) := by decide +kernel
theorem dX7_insert_70 : decode cX7_insert 70 = .ok (.iload 4, 2) := by decide +kernel
theorem dX7_insert_72 : decode cX7_insert 72 = .ok (.aload_n 0, 1) := by decide +kernel
theorem dX7_insert_73 : decode cX7_insert 73 = .ok (.getfield 36, 3) := by decide +kernel
theorem dX7_insert_76 : decode cX7_insert 76 = .ok (.aload_n 0, 1) := by decide +kernel
theorem dX7_insert_77 : decode cX7_insert 77 = .ok (.getfield 29, 3) := by decide +kernel
theorem dX7_insert_80 : decode cX7_insert 80 = .ok (.invokevirtual 143, 3) := by decide +kernel
theorem dX7_insert_83 : decode cX7_insert 83 = .ok (.aload_n 0, 1) := by decide +kernel
theorem dX7_insert_84 : decode cX7_insert 84 = .ok (.iload_n 2, 1) := by decide +kernel
theorem dX7_insert_85 : decode cX7_insert 85 = .ok (.iconst 1, 1) := by decide +kernel
theorem dX7_insert_86 : decode cX7_insert 86 = .ok (.iadd, 1) := by decide +kernel
theorem dX7_insert_87 : decode cX7_insert 87 = .ok (.invokevirtual 83, 3) := by decide +kernel
theorem dX7_insert_90 : decode cX7_insert 90 = .ok (.ireturn, 1) := by decide +kernel
theorem dX7_removeNode_0 : decode cX7_removeNode 0 = .ok (.aload_n 0, 1) := by decide +kernel
theorem dX7_removeNode_1 : decode cX7_removeNode 1 = .ok (.invokevirtual 60, 3) := by decide +kernel
theorem dX7_removeNode_4 : decode cX7_removeNode 4 = .ok (.astore_n 3, 1) := by decide +kernel
theorem dX7_removeNode_5 : decode cX7_removeNode 5 = .ok (.aload_n 3, 1) := by decide +kernel
theorem dX7_removeNode_6 : decode cX7_removeNode 6 = .ok (.iload_n 1, 1) := by decide +kernel
theorem dX7_removeNode_7 : decode cX7_removeNode 7 = .ok (.invokevirtual 87, 3) := by decide +kernel
theorem dX7_removeNode_10 : decode cX7_removeNode 10 = .ok (.astore 4, 2) := by decide +kernel
theorem dX7_removeNode_12 : decode cX7_removeNode 12 = .ok (.aload 4, 2) := by decide +kernel
theorem dX7_removeNode_14 : decode cX7_removeNode 14 = .ok (.ifnull 12, 3) := by decide +kernel
theorem dX7_removeNode_17 : decode cX7_removeNode 17 = .ok (.aload 4, 2) := by decide +kernel
theorem dX7_removeNode_19 : decode cX7_removeNode 19 = .ok (.iload_n 2, 1) := by decide +kernel
theorem dX7_removeNode_20 : decode cX7_removeNode 20 = .ok (.invokevirtual 104, 3) := by decide +kernel
theorem dX7_removeNode_23 : decode cX7_removeNode 23 = .ok (.ifCond .ne 6, 3) := by decide +kernel
theorem dX7_removeNode_26 : decode cX7_removeNode 26 = .ok (.ldc 91, 2) := by decide +kernel
theorem dX7_removeNode_28 : decode cX7_removeNode 28 = .ok (.ireturn, 1) := by decide +kernel
theorem dX7_removeNode_29 : decode cX7_removeNode 29 = .ok (.aload 4, 2) := by decide +kernel
theorem dX7_removeNode_31 : decode cX7_removeNode 31 = .ok (.iload_n 2, 1) := by decide +kernel
theorem dX7_removeNode_32 : decode cX7_removeNode 32 = .ok (.invokevirtual 147, 3) := by decide +kernel
theorem dX7_removeNode_35 : decode cX7_removeNode 35 = .ok (.aload 4, 2) := by decide +kernel
theorem dX7_removeNode_37 : decode cX7_removeNode 37 = .ok (.getfield 97, 3) := by decide +kernel
theorem dX7_removeNode_40 : decode cX7_removeNode 40 = .ok (.istore 5, 2) := by decide +kernel
theorem dX7_removeNode_42 : decode cX7_removeNode 42 = .ok (.iload 5, 2) := by decide +kernel
theorem dX7_removeNode_44 : decode cX7_removeNode 44 = .ok (.iconst 2, 1) := by decide +kernel
theorem dX7_removeNode_45 : decode cX7_removeNode 45 = .ok (.if_icmp .ge 9, 3) := by decide +kernel
theorem dX7_removeNode_48 : decode cX7_removeNode 48 = .ok (.aload 4, 2) := by decide +kernel
theorem dX7_removeNode_50 : decode cX7_removeNode 50 = .ok (.iconst 0, 1) := by decide +kernel
theorem dX7_removeNode_51 : decode cX7_removeNode 51 = .ok (.putfield 92, 3) := by decide +kernel
theorem dX7_removeNode_54 : decode cX7_removeNode 54 = .ok (.iload 5, 2) := by decide +kernel
theorem dX7_removeNode_56 : decode cX7_removeNode 56 = .ok (.ifCond .ne 8, 3) := by decide +kernel
theorem dX7_removeNode_59 : decode cX7_removeNode 59 = .ok (.aload_n 3, 1) := by decide +kernel
theorem dX7_removeNode_60 : decode cX7_removeNode 60 = .ok (.iload_n 1, 1) := by decide +kernel
theorem dX7_removeNode_61 : decode cX7_removeNode 61 = .ok (.invokevirtual 100, 3) := by decide +kernel
theorem dX7_removeNode_64 : decode cX7_removeNode 64 = .ok (.aload_n 0, 1) := by decide +kernel
theorem dX7_removeNode_65 : decode cX7_removeNode 65 = .ok (.iload 5, 2) := by decide +kernel
theorem dX7_removeNode_67 : decode cX7_removeNode 67 = .ok (.invokevirtual 83, 3) := by decide +kernel
theorem dX7_removeNode_70 : decode cX7_removeNode 70 = .ok (.ireturn, 1) := by decide +kernel
theorem dX7_split_0 : decode cX7_split 0 = .ok (.aload_n 0, 1) := by decide +kernel
theorem dX7_split_1 : decode cX7_split 1 = .ok (.invokevirtual 60, 3) := by decide +kernel
theorem dX7_split_4 : decode cX7_split 4 = .ok (.astore_n 3, 1) := by decide +kernel
theorem dX7_split_5 : decode cX7_split 5 = .ok (.aload_n 3, 1) := by decide +kernel
theorem dX7_split_6 : decode cX7_split 6 = .ok (.iload_n 1, 1) := by decide +kernel
theorem dX7_split_7 : decode cX7_split 7 = .ok (.invokevirtual 87, 3) := by decide +kernel
theorem dX7_split_10 : decode cX7_split 10 = .ok (.astore 4, 2) := by decide +kernel
theorem dX7_split_12 : decode cX7_split 12 = .ok (.aload 4, 2) := by decide +kernel
theorem dX7_split_14 : decode cX7_split 14 = .ok (.ifnull 12, 3) := by decide +kernel
theorem dX7_split_17 : decode cX7_split 17 = .ok (.aload 4, 2) := by decide +kernel
theorem dX7_split_19 : decode cX7_split 19 = .ok (.iload_n 2, 1) := by decide +kernel
theorem dX7_split_20 : decode cX7_split 20 = .ok (.invokevirtual 104, 3) := by decide +kernel
theorem dX7_split_23 : decode cX7_split 23 = .ok (.ifCond .ne 6, 3) := by decide +kernel
theorem dX7_split_26 : decode cX7_split 26 = .ok (.ldc 91, 2) := by decide +kernel
theorem dX7_split_28 : decode cX7_split 28 = .ok (.ireturn, 1) := by decide +kernel
theorem dX7_split_29 : decode cX7_split 29 = .ok (.aload 4, 2) := by decide +kernel
theorem dX7_split_31 : decode cX7_split 31 = .ok (.iload_n 2, 1) := by decide +kernel
theorem dX7_split_32 : decode cX7_split 32 = .ok (.invokevirtual 150, 3) := by decide +kernel
theorem dX7_split_35 : decode cX7_split 35 = .ok (.ifCond .ne 6, 3) := by decide +kernel
theorem dX7_split_38 : decode cX7_split 38 = .ok (.ldc 96, 2) := by decide +kernel
theorem dX7_split_40 : decode cX7_split 40 = .ok (.ireturn, 1) := by decide +kernel
theorem dX7_split_41 : decode cX7_split 41 = .ok (.aload 4, 2) := by decide +kernel
theorem dX7_split_43 : decode cX7_split 43 = .ok (.getfield 92, 3) := by decide +kernel
theorem dX7_split_46 : decode cX7_split 46 = .ok (.ifCond .eq 25, 3) := by decide +kernel
theorem dX7_split_49 : decode cX7_split 49 = .ok (.aload 4, 2) := by decide +kernel
theorem dX7_split_51 : decode cX7_split 51 = .ok (.getfield 97, 3) := by decide +kernel
theorem dX7_split_54 : decode cX7_split 54 = .ok (.bipush 12, 2) := by decide +kernel
theorem dX7_split_56 : decode cX7_split 56 = .ok (.if_icmp .lt 6, 3) := by decide +kernel
theorem dX7_split_59 : decode cX7_split 59 = .ok (.ldc 68, 2) := by decide +kernel
theorem dX7_split_61 : decode cX7_split 61 = .ok (.ireturn, 1) := by decide +kernel
theorem dX7_split_62 : decode cX7_split 62 = .ok (.aload 4, 2) := by decide +kernel
theorem dX7_split_64 : decode cX7_split 64 = .ok (.iload_n 2, 1) := by decide +kernel
theorem dX7_split_65 : decode cX7_split 65 = .ok (.invokevirtual 153, 3) := by decide +kernel
theorem dX7_split_68 : decode cX7_split 68 = .ok (.goto 25, 3) := by decide +kernel
theorem dX7_split_71 : decode cX7_split 71 = .ok (.aload_n 3, 1) := by decide +kernel
theorem dX7_split_72 : decode cX7_split 72 = .ok (.invokevirtual 64, 3) := by decide +kernel
theorem dX7_split_75 : decode cX7_split 75 = .ok (.astore 5, 2) := by decide +kernel
theorem dX7_split_77 : decode cX7_split 77 = .ok (.aload 5, 2) := by decide +kernel
theorem dX7_split_79 : decode cX7_split 79 = .ok (.ifnonnull 6, 3) := by decide +kernel
theorem dX7_split_82 : decode cX7_split 82 = .ok (.ldc 68, 2) := by decide +kernel
theorem dX7_split_84 : decode cX7_split 84 = .ok (.ireturn, 1) := by decide +kernel
theorem dX7_split_85 : decode cX7_split 85 = .ok (.aload 4, 2) := by decide +kernel
theorem dX7_split_87 : decode cX7_split 87 = .ok (.iload_n 2, 1) := by decide +kernel
theorem dX7_split_88 : decode cX7_split 88 = .ok (.aload 5, 2) := by decide +kernel
theorem dX7_split_90 : decode cX7_split 90 = .ok (.invokevirtual 156, 3) := by decide +kernel
theorem dX7_split_93 : decode cX7_split 93 = .ok (.aload_n 0, 1) := by decide +kernel
theorem dX7_split_94 : decode cX7_split 94 = .ok (.aload_n 3, 1) := by decide +kernel
theorem dX7_split_95 : decode cX7_split 95 = .ok (.getfield 79, 3) := by decide +kernel
theorem dX7_split_98 : decode cX7_split 98 = .ok (.invokevirtual 83, 3) := by decide +kernel
theorem dX7_split_101 : decode cX7_split 101 = .ok (.ireturn, 1) := by decide +kernel
theorem dX7_join_0 : decode cX7_join 0 = .ok (.aload_n 0, 1) := by decide +kernel
theorem dX7_join_1 : decode cX7_join 1 = .ok (.invokevirtual 60, 3) := by decide +kernel
theorem dX7_join_4 : decode cX7_join 4 = .ok (.astore_n 3, 1) := by decide +kernel
theorem dX7_join_5 : decode cX7_join 5 = .ok (.aload_n 3, 1) := by decide +kernel
theorem dX7_join_6 : decode cX7_join 6 = .ok (.iload_n 1, 1) := by decide +kernel
theorem dX7_join_7 : decode cX7_join 7 = .ok (.invokevirtual 87, 3) := by decide +kernel
theorem dX7_join_10 : decode cX7_join 10 = .ok (.astore 4, 2) := by decide +kernel
theorem dX7_join_12 : decode cX7_join 12 = .ok (.aload_n 3, 1) := by decide +kernel
theorem dX7_join_13 : decode cX7_join 13 = .ok (.iload_n 2, 1) := by decide +kernel
theorem dX7_join_14 : decode cX7_join 14 = .ok (.invokevirtual 87, 3) := by decide +kernel
theorem dX7_join_17 : decode cX7_join 17 = .ok (.astore 5, 2) := by decide +kernel
theorem dX7_join_19 : decode cX7_join 19 = .ok (.aload 4, 2) := by decide +kernel
theorem dX7_join_21 : decode cX7_join 21 = .ok (.ifnull 8, 3) := by decide +kernel
theorem dX7_join_24 : decode cX7_join 24 = .ok (.aload 5, 2) := by decide +kernel
theorem dX7_join_26 : decode cX7_join 26 = .ok (.ifnonnull 6, 3) := by decide +kernel
theorem dX7_join_29 : decode cX7_join 29 = .ok (.ldc 91, 2) := by decide +kernel
theorem dX7_join_31 : decode cX7_join 31 = .ok (.ireturn, 1) := by decide +kernel
theorem dX7_join_32 : decode cX7_join 32 = .ok (.iload_n 1, 1) := by decide +kernel
theorem dX7_join_33 : decode cX7_join 33 = .ok (.iload_n 2, 1) := by decide +kernel
theorem dX7_join_34 : decode cX7_join 34 = .ok (.if_icmp .ne 7, 3) := by decide +kernel
theorem dX7_join_37 : decode cX7_join 37 = .ok (.iconst 1, 1) := by decide +kernel
theorem dX7_join_38 : decode cX7_join 38 = .ok (.goto 4, 3) := by decide +kernel
theorem dX7_join_41 : decode cX7_join 41 = .ok (.iconst 0, 1) := by decide +kernel
theorem dX7_join_42 : decode cX7_join 42 = .ok (.istore 6, 2) := by decide +kernel
theorem dX7_join_44 : decode cX7_join 44 = .ok (.aload 4, 2) := by decide +kernel
theorem dX7_join_46 : decode cX7_join 46 = .ok (.aload 5, 2) := by decide +kernel
theorem dX7_join_48 : decode cX7_join 48 = .ok (.invokevirtual 160, 3) := by decide +kernel
theorem dX7_join_51 : decode cX7_join 51 = .ok (.istore 7, 2) := by decide +kernel
theorem dX7_join_53 : decode cX7_join 53 = .ok (.iload 6, 2) := by decide +kernel
theorem dX7_join_55 : decode cX7_join 55 = .ok (.ifCond .eq 11, 3) := by decide +kernel
theorem dX7_join_58 : decode cX7_join 58 = .ok (.aload 4, 2) := by decide +kernel
theorem dX7_join_60 : decode cX7_join 60 = .ok (.getfield 97, 3) := by decide +kernel
theorem dX7_join_63 : decode cX7_join 63 = .ok (.goto 14, 3) := by decide +kernel
theorem dX7_join_66 : decode cX7_join 66 = .ok (.aload 4, 2) := by decide +kernel
theorem dX7_join_68 : decode cX7_join 68 = .ok (.getfield 97, 3) := by decide +kernel
theorem dX7_join_71 : decode cX7_join 71 = .ok (.aload 5, 2) := by decide +kernel
theorem dX7_join_73 : decode cX7_join 73 = .ok (.getfield 97, 3) := by decide +kernel
theorem dX7_join_76 : decode cX7_join 76 = .ok (.iadd, 1) := by decide +kernel
theorem dX7_join_77 : decode cX7_join 77 = .ok (.iload 7, 2) := by decide +kernel
theorem dX7_join_79 : decode cX7_join 79 = .ok (.ifCond .eq 7, 3) := by decide +kernel
theorem dX7_join_82 : decode cX7_join 82 = .ok (.iconst 1, 1) := by decide +kernel
theorem dX7_join_83 : decode cX7_join 83 = .ok (.goto 4, 3) := by decide +kernel
theorem dX7_join_86 : decode cX7_join 86 = .ok (.iconst 0, 1) := by decide +kernel
theorem dX7_join_87 : decode cX7_join 87 = .ok (.isub, 1) := by decide +kernel
theorem dX7_join_88 : decode cX7_join 88 = .ok (.istore 8, 2) := by decide +kernel
theorem dX7_join_90 : decode cX7_join 90 = .ok (.aload 4, 2) := by decide +kernel
theorem dX7_join_92 : decode cX7_join 92 = .ok (.getfield 92, 3) := by decide +kernel
theorem dX7_join_95 : decode cX7_join 95 = .ok (.ifCond .ne 22, 3) := by decide +kernel
theorem dX7_join_98 : decode cX7_join 98 = .ok (.aload 5, 2) := by decide +kernel
theorem dX7_join_100 : decode cX7_join 100 = .ok (.getfield 92, 3) := by decide +kernel
theorem dX7_join_103 : decode cX7_join 103 = .ok (.ifCond .ne 14, 3) := by decide +kernel
theorem dX7_join_106 : decode cX7_join 106 = .ok (.iload 6, 2) := by decide +kernel
theorem dX7_join_108 : decode cX7_join 108 = .ok (.ifCond .eq 12, 3) := by decide +kernel
theorem dX7_join_111 : decode cX7_join 111 = .ok (.iload 8, 2) := by decide +kernel
theorem dX7_join_113 : decode cX7_join 113 = .ok (.iconst 2, 1) := by decide +kernel
theorem dX7_join_114 : decode cX7_join 114 = .ok (.if_icmp .ge 6, 3) := by decide +kernel
theorem dX7_join_117 : decode cX7_join 117 = .ok (.ldc 96, 2) := by decide +kernel
theorem dX7_join_119 : decode cX7_join 119 = .ok (.ireturn, 1) := by decide +kernel
theorem dX7_join_120 : decode cX7_join 120 = .ok (.iload 8, 2) := by decide +kernel
theorem dX7_join_122 : decode cX7_join 122 = .ok (.bipush 12, 2) := by decide +kernel
theorem dX7_join_124 : decode cX7_join 124 = .ok (.if_icmp .le 6, 3) := by decide +kernel
theorem dX7_join_127 : decode cX7_join 127 = .ok (.ldc 68, 2) := by decide +kernel
theorem dX7_join_129 : decode cX7_join 129 = .ok (.ireturn, 1) := by decide +kernel
theorem dX7_join_130 : decode cX7_join 130 = .ok (.iload 7, 2) := by decide +kernel
theorem dX7_join_132 : decode cX7_join 132 = .ok (.ifCond .eq 10, 3) := by decide +kernel
theorem dX7_join_135 : decode cX7_join 135 = .ok (.aload 5, 2) := by decide +kernel
theorem dX7_join_137 : decode cX7_join 137 = .ok (.aload 4, 2) := by decide +kernel
theorem dX7_join_139 : decode cX7_join 139 = .ok (.invokevirtual 164, 3) := by decide +kernel
theorem dX7_join_142 : decode cX7_join 142 = .ok (.iload 6, 2) := by decide +kernel
theorem dX7_join_144 : decode cX7_join 144 = .ok (.ifCond .eq 12, 3) := by decide +kernel
theorem dX7_join_147 : decode cX7_join 147 = .ok (.aload 4, 2) := by decide +kernel
theorem dX7_join_149 : decode cX7_join 149 = .ok (.iconst 1, 1) := by decide +kernel
theorem dX7_join_150 : decode cX7_join 150 = .ok (.putfield 92, 3) := by decide +kernel
theorem dX7_join_153 : decode cX7_join 153 = .ok (.goto 15, 3) := by decide +kernel
theorem dX7_join_156 : decode cX7_join 156 = .ok (.aload 4, 2) := by decide +kernel
theorem dX7_join_158 : decode cX7_join 158 = .ok (.aload 5, 2) := by decide +kernel
theorem dX7_join_160 : decode cX7_join 160 = .ok (.invokevirtual 168, 3) := by decide +kernel
theorem dX7_join_163 : decode cX7_join 163 = .ok (.aload_n 3, 1) := by decide +kernel
theorem dX7_join_164 : decode cX7_join 164 = .ok (.iload_n 2, 1) := by decide +kernel
theorem dX7_join_165 : decode cX7_join 165 = .ok (.invokevirtual 100, 3) := by decide +kernel
theorem dX7_join_168 : decode cX7_join 168 = .ok (.aload_n 0, 1) := by decide +kernel
theorem dX7_join_169 : decode cX7_join 169 = .ok (.iload 8, 2) := by decide +kernel
theorem dX7_join_171 : decode cX7_join 171 = .ok (.invokevirtual 83, 3) := by decide +kernel
theorem dX7_join_174 : decode cX7_join 174 = .ok (.ireturn, 1) := by decide +kernel
theorem dX7_reverse_0 : decode cX7_reverse 0 = .ok (.aload_n 0, 1) := by decide +kernel
theorem dX7_reverse_1 : decode cX7_reverse 1 = .ok (.invokevirtual 60, 3) := by decide +kernel
theorem dX7_reverse_4 : decode cX7_reverse 4 = .ok (.iload_n 1, 1) := by decide +kernel
theorem dX7_reverse_5 : decode cX7_reverse 5 = .ok (.invokevirtual 87, 3) := by decide +kernel
theorem dX7_reverse_8 : decode cX7_reverse 8 = .ok (.astore_n 2, 1) := by decide +kernel
theorem dX7_reverse_9 : decode cX7_reverse 9 = .ok (.aload_n 2, 1) := by decide +kernel
theorem dX7_reverse_10 : decode cX7_reverse 10 = .ok (.ifnonnull 6, 3) := by decide +kernel
theorem dX7_reverse_13 : decode cX7_reverse 13 = .ok (.ldc 91, 2) := by decide +kernel
theorem dX7_reverse_15 : decode cX7_reverse 15 = .ok (.ireturn, 1) := by decide +kernel
theorem dX7_reverse_16 : decode cX7_reverse 16 = .ok (.aload_n 2, 1) := by decide +kernel
theorem dX7_reverse_17 : decode cX7_reverse 17 = .ok (.invokevirtual 171, 3) := by decide +kernel
theorem dX7_reverse_20 : decode cX7_reverse 20 = .ok (.aload_n 0, 1) := by decide +kernel
theorem dX7_reverse_21 : decode cX7_reverse 21 = .ok (.aload_n 2, 1) := by decide +kernel
theorem dX7_reverse_22 : decode cX7_reverse 22 = .ok (.getfield 97, 3) := by decide +kernel
theorem dX7_reverse_25 : decode cX7_reverse 25 = .ok (.invokevirtual 83, 3) := by decide +kernel
theorem dX7_reverse_28 : decode cX7_reverse 28 = .ok (.ireturn, 1) := by decide +kernel
theorem dX7_transform_0 : decode cX7_transform 0 = .ok (.aload_n 0, 1) := by decide +kernel
theorem dX7_transform_1 : decode cX7_transform 1 = .ok (.invokevirtual 60, 3) := by decide +kernel
theorem dX7_transform_4 : decode cX7_transform 4 = .ok (.iload_n 1, 1) := by decide +kernel
theorem dX7_transform_5 : decode cX7_transform 5 = .ok (.invokevirtual 87, 3) := by decide +kernel
theorem dX7_transform_8 : decode cX7_transform 8 = .ok (.astore 7, 2) := by decide +kernel
theorem dX7_transform_10 : decode cX7_transform 10 = .ok (.aload 7, 2) := by decide +kernel
theorem dX7_transform_12 : decode cX7_transform 12 = .ok (.ifnonnull 6, 3) := by decide +kernel
theorem dX7_transform_15 : decode cX7_transform 15 = .ok (.ldc 91, 2) := by decide +kernel
theorem dX7_transform_17 : decode cX7_transform 17 = .ok (.ireturn, 1) := by decide +kernel
theorem dX7_transform_18 : decode cX7_transform 18 = .ok (.iload_n 2, 1) := by decide +kernel
theorem dX7_transform_19 : decode cX7_transform 19 = .ok (.invokestatic 174, 3) := by decide +kernel
theorem dX7_transform_22 : decode cX7_transform 22 = .ok (.ifCond .eq 37, 3) := by decide +kernel
theorem dX7_transform_25 : decode cX7_transform 25 = .ok (.iload_n 3, 1) := by decide +kernel
theorem dX7_transform_26 : decode cX7_transform 26 = .ok (.invokestatic 174, 3) := by decide +kernel
theorem dX7_transform_29 : decode cX7_transform 29 = .ok (.ifCond .eq 30, 3) := by decide +kernel
theorem dX7_transform_32 : decode cX7_transform 32 = .ok (.iload 4, 2) := by decide +kernel
theorem dX7_transform_34 : decode cX7_transform 34 = .ok (.invokestatic 174, 3) := by decide +kernel
theorem dX7_transform_37 : decode cX7_transform 37 = .ok (.ifCond .eq 22, 3) := by decide +kernel
theorem dX7_transform_40 : decode cX7_transform 40 = .ok (.iload 5, 2) := by decide +kernel
theorem dX7_transform_42 : decode cX7_transform 42 = .ok (.invokestatic 174, 3) := by decide +kernel
theorem dX7_transform_45 : decode cX7_transform 45 = .ok (.ifCond .eq 14, 3) := by decide +kernel
theorem dX7_transform_48 : decode cX7_transform 48 = .ok (.iload 6, 2) := by decide +kernel
theorem dX7_transform_50 : decode cX7_transform 50 = .ok (.iconst 1, 1) := by decide +kernel
theorem dX7_transform_51 : decode cX7_transform 51 = .ok (.bipush 6, 2) := by decide +kernel
theorem dX7_transform_53 : decode cX7_transform 53 = .ok (.invokestatic 126, 3) := by decide +kernel
theorem dX7_transform_56 : decode cX7_transform 56 = .ok (.ifCond .ne 6, 3) := by decide +kernel
theorem dX7_transform_59 : decode cX7_transform 59 = .ok (.ldc 59, 2) := by decide +kernel
theorem dX7_transform_61 : decode cX7_transform 61 = .ok (.ireturn, 1) := by decide +kernel
theorem dX7_transform_62 : decode cX7_transform 62 = .ok (.iconst 0, 1) := by decide +kernel
theorem dX7_transform_63 : decode cX7_transform 63 = .ok (.istore 8, 2) := by decide +kernel
theorem dX7_transform_65 : decode cX7_transform 65 = .ok (.iload 8, 2) := by decide +kernel
theorem dX7_transform_67 : decode cX7_transform 67 = .ok (.aload 7, 2) := by decide +kernel
theorem dX7_transform_69 : decode cX7_transform 69 = .ok (.getfield 97, 3) := by decide +kernel
theorem dX7_transform_72 : decode cX7_transform 72 = .ok (.if_icmp .ge 32, 3) := by decide +kernel
theorem dX7_transform_75 : decode cX7_transform 75 = .ok (.aload 7, 2) := by decide +kernel
theorem dX7_transform_77 : decode cX7_transform 77 = .ok (.iload 8, 2) := by decide +kernel
theorem dX7_transform_79 : decode cX7_transform 79 = .ok (.iload_n 2, 1) := by decide +kernel
theorem dX7_transform_80 : decode cX7_transform 80 = .ok (.i2l, 1) := by decide +kernel
theorem dX7_transform_81 : decode cX7_transform 81 = .ok (.iload_n 3, 1) := by decide +kernel
theorem dX7_transform_82 : decode cX7_transform 82 = .ok (.i2l, 1) := by decide +kernel
theorem dX7_transform_83 : decode cX7_transform 83 = .ok (.iload 4, 2) := by decide +kernel
theorem dX7_transform_85 : decode cX7_transform 85 = .ok (.i2l, 1) := by decide +kernel
theorem dX7_transform_86 : decode cX7_transform 86 = .ok (.iload 5, 2) := by decide +kernel
theorem dX7_transform_88 : decode cX7_transform 88 = .ok (.i2l, 1) := by decide +kernel
theorem dX7_transform_89 : decode cX7_transform 89 = .ok (.iload 6, 2) := by decide +kernel
theorem dX7_transform_91 : decode cX7_transform 91 = .ok (.aload_n 0, 1) := by decide +kernel
theorem dX7_transform_92 : decode cX7_transform 92 = .ok (.getfield 29, 3) := by decide +kernel
theorem dX7_transform_95 : decode cX7_transform 95 = .ok (.invokevirtual 177, 3) := by decide +kernel
theorem dX7_transform_98 : decode cX7_transform 98 = .ok (.iinc 8 1, 3) := by decide +kernel
theorem dX7_transform_101 : decode cX7_transform 101 = .ok (.goto (-36), 3) := by decide +kernel
theorem dX7_transform_104 : decode cX7_transform 104 = .ok (.aload_n 0, 1) := by decide +kernel
theorem dX7_transform_105 : decode cX7_transform 105 = .ok (.aload 7, 2) := by decide +kernel
theorem dX7_transform_107 : decode cX7_transform 107 = .ok (.getfield 97, 3) := by decide +kernel
theorem dX7_transform_110 : decode cX7_transform 110 = .ok (.invokevirtual 83, 3) := by decide +kernel
theorem dX7_transform_113 : decode cX7_transform 113 = .ok (.ireturn, 1) := by decide +kernel
theorem dX7_shift_0 : decode cX7_shift 0 = .ok (.aload_n 0, 1) := by decide +kernel
theorem dX7_shift_1 : decode cX7_shift 1 = .ok (.invokevirtual 60, 3) := by decide +kernel
theorem dX7_shift_4 : decode cX7_shift 4 = .ok (.iload_n 1, 1) := by decide +kernel
theorem dX7_shift_5 : decode cX7_shift 5 = .ok (.invokevirtual 87, 3) := by decide +kernel
theorem dX7_shift_8 : decode cX7_shift 8 = .ok (.astore 4, 2) := by decide +kernel
theorem dX7_shift_10 : decode cX7_shift 10 = .ok (.aload 4, 2) := by decide +kernel
theorem dX7_shift_12 : decode cX7_shift 12 = .ok (.ifnonnull 6, 3) := by decide +kernel
theorem dX7_shift_15 : decode cX7_shift 15 = .ok (.ldc 91, 2) := by decide +kernel
theorem dX7_shift_17 : decode cX7_shift 17 = .ok (.ireturn, 1) := by decide +kernel
theorem dX7_shift_18 : decode cX7_shift 18 = .ok (.iload_n 2, 1) := by decide +kernel
theorem dX7_shift_19 : decode cX7_shift 19 = .ok (.invokestatic 55, 3) := by decide +kernel
theorem dX7_shift_22 : decode cX7_shift 22 = .ok (.ifCond .eq 10, 3) := by decide +kernel
theorem dX7_shift_25 : decode cX7_shift 25 = .ok (.iload_n 3, 1) := by decide +kernel
theorem dX7_shift_26 : decode cX7_shift 26 = .ok (.invokestatic 55, 3) := by decide +kernel
theorem dX7_shift_29 : decode cX7_shift 29 = .ok (.ifCond .ne 6, 3) := by decide +kernel
theorem dX7_shift_32 : decode cX7_shift 32 = .ok (.ldc 59, 2) := by decide +kernel
theorem dX7_shift_34 : decode cX7_shift 34 = .ok (.ireturn, 1) := by decide +kernel
theorem dX7_shift_35 : decode cX7_shift 35 = .ok (.iconst 0, 1) := by decide +kernel
theorem dX7_shift_36 : decode cX7_shift 36 = .ok (.istore 5, 2) := by decide +kernel
theorem dX7_shift_38 : decode cX7_shift 38 = .ok (.iload 5, 2) := by decide +kernel
theorem dX7_shift_40 : decode cX7_shift 40 = .ok (.aload 4, 2) := by decide +kernel
theorem dX7_shift_42 : decode cX7_shift 42 = .ok (.getfield 97, 3) := by decide +kernel
theorem dX7_shift_45 : decode cX7_shift 45 = .ok (.if_icmp .ge 28, 3) := by decide +kernel
theorem dX7_shift_48 : decode cX7_shift 48 = .ok (.aload 4, 2) := by decide +kernel
theorem dX7_shift_50 : decode cX7_shift 50 = .ok (.iload 5, 2) := by decide +kernel
theorem dX7_shift_52 : decode cX7_shift 52 = .ok (.iload_n 2, 1) := by decide +kernel
theorem dX7_shift_53 : decode cX7_shift 53 = .ok (.ldc 69, 2) := by decide +kernel
theorem dX7_shift_55 : decode cX7_shift 55 = .ok (.imul, 1) := by decide +kernel
theorem dX7_shift_56 : decode cX7_shift 56 = .ok (.iload_n 3, 1) := by decide +kernel
theorem dX7_shift_57 : decode cX7_shift 57 = .ok (.ldc 69, 2) := by decide +kernel
theorem dX7_shift_59 : decode cX7_shift 59 = .ok (.imul, 1) := by decide +kernel
theorem dX7_shift_60 : decode cX7_shift 60 = .ok (.aload_n 0, 1) := by decide +kernel
theorem dX7_shift_61 : decode cX7_shift 61 = .ok (.getfield 29, 3) := by decide +kernel
theorem dX7_shift_64 : decode cX7_shift 64 = .ok (.invokevirtual 107, 3) := by decide +kernel
theorem dX7_shift_67 : decode cX7_shift 67 = .ok (.iinc 5 1, 3) := by decide +kernel
theorem dX7_shift_70 : decode cX7_shift 70 = .ok (.goto (-32), 3) := by decide +kernel
theorem dX7_shift_73 : decode cX7_shift 73 = .ok (.aload_n 0, 1) := by decide +kernel
theorem dX7_shift_74 : decode cX7_shift 74 = .ok (.aload 4, 2) := by decide +kernel
theorem dX7_shift_76 : decode cX7_shift 76 = .ok (.getfield 97, 3) := by decide +kernel
theorem dX7_shift_79 : decode cX7_shift 79 = .ok (.invokevirtual 83, 3) := by decide +kernel
theorem dX7_shift_82 : decode cX7_shift 82 = .ok (.ireturn, 1) := by decide +kernel
theorem dX7_undo_0 : decode cX7_undo 0 = .ok (.aload_n 0, 1) := by decide +kernel
theorem dX7_undo_1 : decode cX7_undo 1 = .ok (.getfield 10, 3) := by decide +kernel
theorem dX7_undo_4 : decode cX7_undo 4 = .ok (.getfield 181, 3) := by decide +kernel
theorem dX7_undo_7 : decode cX7_undo 7 = .ok (.ifCond .ne 6, 3) := by decide +kernel
theorem dX7_undo_10 : decode cX7_undo 10 = .ok (.ldc 96, 2) := by decide +kernel
theorem dX7_undo_12 : decode cX7_undo 12 = .ok (.ireturn, 1) := by decide +kernel
theorem dX7_undo_13 : decode cX7_undo 13 = .ok (.aload_n 0, 1) := by decide +kernel
theorem dX7_undo_14 : decode cX7_undo 14 = .ok (.getfield 10, 3) := by decide +kernel
theorem dX7_undo_17 : decode cX7_undo 17 = .ok (.invokevirtual 184, 3) := by decide +kernel
theorem dX7_undo_20 : decode cX7_undo 20 = .ok (.aload_n 0, 1) := by decide +kernel
theorem dX7_undo_21 : decode cX7_undo 21 = .ok (.getfield 10, 3) := by decide +kernel
theorem dX7_undo_24 : decode cX7_undo 24 = .ok (.getfield 181, 3) := by decide +kernel
theorem dX7_undo_27 : decode cX7_undo 27 = .ok (.ireturn, 1) := by decide +kernel
theorem dX7_redo_0 : decode cX7_redo 0 = .ok (.aload_n 0, 1) := by decide +kernel
theorem dX7_redo_1 : decode cX7_redo 1 = .ok (.getfield 10, 3) := by decide +kernel
theorem dX7_redo_4 : decode cX7_redo 4 = .ok (.getfield 187, 3) := by decide +kernel
theorem dX7_redo_7 : decode cX7_redo 7 = .ok (.ifCond .ne 6, 3) := by decide +kernel
theorem dX7_redo_10 : decode cX7_redo 10 = .ok (.ldc 96, 2) := by decide +kernel
theorem dX7_redo_12 : decode cX7_redo 12 = .ok (.ireturn, 1) := by decide +kernel
theorem dX7_redo_13 : decode cX7_redo 13 = .ok (.aload_n 0, 1) := by decide +kernel
theorem dX7_redo_14 : decode cX7_redo 14 = .ok (.getfield 10, 3) := by decide +kernel
theorem dX7_redo_17 : decode cX7_redo 17 = .ok (.invokevirtual 190, 3) := by decide +kernel
theorem dX7_redo_20 : decode cX7_redo 20 = .ok (.aload_n 0, 1) := by decide +kernel
theorem dX7_redo_21 : decode cX7_redo 21 = .ok (.getfield 10, 3) := by decide +kernel
theorem dX7_redo_24 : decode cX7_redo 24 = .ok (.getfield 187, 3) := by decide +kernel
theorem dX7_redo_27 : decode cX7_redo 27 = .ok (.ireturn, 1) := by decide +kernel
theorem dX7_paths_0 : decode cX7_paths 0 = .ok (.aload_n 0, 1) := by decide +kernel
theorem dX7_paths_1 : decode cX7_paths 1 = .ok (.getfield 10, 3) := by decide +kernel
theorem dX7_paths_4 : decode cX7_paths 4 = .ok (.invokevirtual 76, 3) := by decide +kernel
theorem dX7_paths_7 : decode cX7_paths 7 = .ok (.getfield 79, 3) := by decide +kernel
theorem dX7_paths_10 : decode cX7_paths 10 = .ok (.ireturn, 1) := by decide +kernel
theorem dX7_nodes_0 : decode cX7_nodes 0 = .ok (.aload_n 0, 1) := by decide +kernel
theorem dX7_nodes_1 : decode cX7_nodes 1 = .ok (.getfield 10, 3) := by decide +kernel
theorem dX7_nodes_4 : decode cX7_nodes 4 = .ok (.invokevirtual 76, 3) := by decide +kernel
theorem dX7_nodes_7 : decode cX7_nodes 7 = .ok (.iload_n 1, 1) := by decide +kernel
theorem dX7_nodes_8 : decode cX7_nodes 8 = .ok (.invokevirtual 87, 3) := by decide +kernel
theorem dX7_nodes_11 : decode cX7_nodes 11 = .ok (.astore_n 2, 1) := by decide +kernel
theorem dX7_nodes_12 : decode cX7_nodes 12 = .ok (.aload_n 2, 1) := by decide +kernel
theorem dX7_nodes_13 : decode cX7_nodes 13 = .ok (.ifnonnull 8, 3) := by decide +kernel
theorem dX7_nodes_16 : decode cX7_nodes 16 = .ok (.ldc 91, 2) := by decide +kernel
theorem dX7_nodes_18 : decode cX7_nodes 18 = .ok (.goto 7, 3) := by decide +kernel
theorem dX7_nodes_21 : decode cX7_nodes 21 = .ok (.aload_n 2, 1) := by decide +kernel
theorem dX7_nodes_22 : decode cX7_nodes 22 = .ok (.getfield 97, 3) := by decide +kernel
theorem dX7_nodes_25 : decode cX7_nodes 25 = .ok (.ireturn, 1) := by decide +kernel
theorem dX7_isClosed_0 : decode cX7_isClosed 0 = .ok (.aload_n 0, 1) := by decide +kernel
theorem dX7_isClosed_1 : decode cX7_isClosed 1 = .ok (.getfield 10, 3) := by decide +kernel
theorem dX7_isClosed_4 : decode cX7_isClosed 4 = .ok (.invokevirtual 76, 3) := by decide +kernel
theorem dX7_isClosed_7 : decode cX7_isClosed 7 = .ok (.iload_n 1, 1) := by decide +kernel
theorem dX7_isClosed_8 : decode cX7_isClosed 8 = .ok (.invokevirtual 87, 3) := by decide +kernel
theorem dX7_isClosed_11 : decode cX7_isClosed 11 = .ok (.astore_n 2, 1) := by decide +kernel
theorem dX7_isClosed_12 : decode cX7_isClosed 12 = .ok (.aload_n 2, 1) := by decide +kernel
theorem dX7_isClosed_13 : decode cX7_isClosed 13 = .ok (.ifnonnull 6, 3) := by decide +kernel
theorem dX7_isClosed_16 : decode cX7_isClosed 16 = .ok (.ldc 91, 2) := by decide +kernel
theorem dX7_isClosed_18 : decode cX7_isClosed 18 = .ok (.ireturn, 1) := by decide +kernel
theorem dX7_isClosed_19 : decode cX7_isClosed 19 = .ok (.aload_n 2, 1) := by decide +kernel
theorem dX7_isClosed_20 : decode cX7_isClosed 20 = .ok (.getfield 92, 3) := by decide +kernel
theorem dX7_isClosed_23 : decode cX7_isClosed 23 = .ok (.ifCond .eq 7, 3) := by decide +kernel
theorem dX7_isClosed_26 : decode cX7_isClosed 26 = .ok (.iconst 1, 1) := by decide +kernel
theorem dX7_isClosed_27 : decode cX7_isClosed 27 = .ok (.goto 4, 3) := by decide +kernel
theorem dX7_isClosed_30 : decode cX7_isClosed 30 = .ok (.iconst 0, 1) := by decide +kernel
theorem dX7_isClosed_31 : decode cX7_isClosed 31 = .ok (.ireturn, 1) := by decide +kernel
theorem dX7_coordinate_0 : decode cX7_coordinate 0 = .ok (.aload_n 0, 1) := by decide +kernel
theorem dX7_coordinate_1 : decode cX7_coordinate 1 = .ok (.getfield 10, 3) := by decide +kernel
theorem dX7_coordinate_4 : decode cX7_coordinate 4 = .ok (.invokevirtual 76, 3) := by decide +kernel
theorem dX7_coordinate_7 : decode cX7_coordinate 7 = .ok (.iload_n 1, 1) := by decide +kernel
theorem dX7_coordinate_8 : decode cX7_coordinate 8 = .ok (.invokevirtual 87, 3) := by decide +kernel
theorem dX7_coordinate_11 : decode cX7_coordinate 11 = .ok (.astore 4, 2) := by decide +kernel
theorem dX7_coordinate_13 : decode cX7_coordinate 13 = .ok (.aload 4, 2) := by decide +kernel
theorem dX7_coordinate_15 : decode cX7_coordinate 15 = .ok (.ifnull 12, 3) := by decide +kernel
theorem dX7_coordinate_18 : decode cX7_coordinate 18 = .ok (.aload 4, 2) := by decide +kernel
theorem dX7_coordinate_20 : decode cX7_coordinate 20 = .ok (.iload_n 2, 1) := by decide +kernel
theorem dX7_coordinate_21 : decode cX7_coordinate 21 = .ok (.invokevirtual 104, 3) := by decide +kernel
theorem dX7_coordinate_24 : decode cX7_coordinate 24 = .ok (.ifCond .ne 6, 3) := by decide +kernel
theorem dX7_coordinate_27 : decode cX7_coordinate 27 = .ok (.ldc 91, 2) := by decide +kernel
theorem dX7_coordinate_29 : decode cX7_coordinate 29 = .ok (.ireturn, 1) := by decide +kernel
theorem dX7_coordinate_30 : decode cX7_coordinate 30 = .ok (.iload_n 3, 1) := by decide +kernel
theorem dX7_coordinate_31 : decode cX7_coordinate 31 = .ok (.iconst 0, 1) := by decide +kernel
theorem dX7_coordinate_32 : decode cX7_coordinate 32 = .ok (.iconst 5, 1) := by decide +kernel
theorem dX7_coordinate_33 : decode cX7_coordinate 33 = .ok (.invokestatic 126, 3) := by decide +kernel
theorem dX7_coordinate_36 : decode cX7_coordinate 36 = .ok (.ifCond .eq 13, 3) := by decide +kernel
theorem dX7_coordinate_39 : decode cX7_coordinate 39 = .ok (.aload 4, 2) := by decide +kernel
theorem dX7_coordinate_41 : decode cX7_coordinate 41 = .ok (.iload_n 2, 1) := by decide +kernel
theorem dX7_coordinate_42 : decode cX7_coordinate 42 = .ok (.iload_n 3, 1) := by decide +kernel
theorem dX7_coordinate_43 : decode cX7_coordinate 43 = .ok (.invokevirtual 111, 3) := by decide +kernel
theorem dX7_coordinate_46 : decode cX7_coordinate 46 = .ok (.goto 5, 3) := by decide +kernel
theorem dX7_coordinate_49 : decode cX7_coordinate 49 = .ok (.ldc 59, 2) := by decide +kernel
theorem dX7_coordinate_51 : decode cX7_coordinate 51 = .ok (.ireturn, 1) := by decide +kernel
theorem dX7_ratio_0 : decode cX7_ratio 0 = .ok (.aload_n 0, 1) := by decide +kernel
theorem dX7_ratio_1 : decode cX7_ratio 1 = .ok (.getfield 10, 3) := by decide +kernel
theorem dX7_ratio_4 : decode cX7_ratio 4 = .ok (.invokevirtual 76, 3) := by decide +kernel
theorem dX7_ratio_7 : decode cX7_ratio 7 = .ok (.iload_n 1, 1) := by decide +kernel
theorem dX7_ratio_8 : decode cX7_ratio 8 = .ok (.invokevirtual 87, 3) := by decide +kernel
theorem dX7_ratio_11 : decode cX7_ratio 11 = .ok (.astore 4, 2) := by decide +kernel
theorem dX7_ratio_13 : decode cX7_ratio 13 = .ok (.aload 4, 2) := by decide +kernel
theorem dX7_ratio_15 : decode cX7_ratio 15 = .ok (.ifnull 12, 3) := by decide +kernel
theorem dX7_ratio_18 : decode cX7_ratio 18 = .ok (.aload 4, 2) := by decide +kernel
theorem dX7_ratio_20 : decode cX7_ratio 20 = .ok (.iload_n 2, 1) := by decide +kernel
theorem dX7_ratio_21 : decode cX7_ratio 21 = .ok (.invokevirtual 104, 3) := by decide +kernel
theorem dX7_ratio_24 : decode cX7_ratio 24 = .ok (.ifCond .ne 6, 3) := by decide +kernel
theorem dX7_ratio_27 : decode cX7_ratio 27 = .ok (.ldc 91, 2) := by decide +kernel
theorem dX7_ratio_29 : decode cX7_ratio 29 = .ok (.ireturn, 1) := by decide +kernel
theorem dX7_ratio_30 : decode cX7_ratio 30 = .ok (.aload 4, 2) := by decide +kernel
theorem dX7_ratio_32 : decode cX7_ratio 32 = .ok (.iload_n 2, 1) := by decide +kernel
theorem dX7_ratio_33 : decode cX7_ratio 33 = .ok (.iload_n 3, 1) := by decide +kernel
theorem dX7_ratio_34 : decode cX7_ratio 34 = .ok (.ifCond .eq 8, 3) := by decide +kernel
theorem dX7_ratio_37 : decode cX7_ratio 37 = .ok (.bipush 7, 2) := by decide +kernel
theorem dX7_ratio_39 : decode cX7_ratio 39 = .ok (.goto 5, 3) := by decide +kernel
theorem dX7_ratio_42 : decode cX7_ratio 42 = .ok (.bipush 6, 2) := by decide +kernel
theorem dX7_ratio_44 : decode cX7_ratio 44 = .ok (.invokevirtual 193, 3) := by decide +kernel
theorem dX7_ratio_47 : decode cX7_ratio 47 = .ok (.ireturn, 1) := by decide +kernel
theorem dX7_point_0 : decode cX7_point 0 = .ok (.aload_n 0, 1) := by decide +kernel
theorem dX7_point_1 : decode cX7_point 1 = .ok (.getfield 10, 3) := by decide +kernel
theorem dX7_point_4 : decode cX7_point 4 = .ok (.invokevirtual 76, 3) := by decide +kernel
theorem dX7_point_7 : decode cX7_point 7 = .ok (.iload_n 1, 1) := by decide +kernel
theorem dX7_point_8 : decode cX7_point 8 = .ok (.invokevirtual 87, 3) := by decide +kernel
theorem dX7_point_11 : decode cX7_point 11 = .ok (.astore 6, 2) := by decide +kernel
theorem dX7_point_13 : decode cX7_point 13 = .ok (.aload 6, 2) := by decide +kernel
theorem dX7_point_15 : decode cX7_point 15 = .ok (.ifnull 12, 3) := by decide +kernel
theorem dX7_point_18 : decode cX7_point 18 = .ok (.aload 6, 2) := by decide +kernel
theorem dX7_point_20 : decode cX7_point 20 = .ok (.iload_n 2, 1) := by decide +kernel
theorem dX7_point_21 : decode cX7_point 21 = .ok (.invokevirtual 140, 3) := by decide +kernel
theorem dX7_point_24 : decode cX7_point 24 = .ok (.ifCond .ne 6, 3) := by decide +kernel
theorem dX7_point_27 : decode cX7_point 27 = .ok (.ldc 91, 2) := by decide +kernel
theorem dX7_point_29 : decode cX7_point 29 = .ok (.ireturn, 1) := by decide +kernel
theorem dX7_point_30 : decode cX7_point 30 = .ok (.iload 4, 2) := by decide +kernel
theorem dX7_point_32 : decode cX7_point 32 = .ok (.iconst 1, 1) := by decide +kernel
theorem dX7_point_33 : decode cX7_point 33 = .ok (.bipush 6, 2) := by decide +kernel
theorem dX7_point_35 : decode cX7_point 35 = .ok (.invokestatic 126, 3) := by decide +kernel
theorem dX7_point_38 : decode cX7_point 38 = .ok (.ifCond .eq 13, 3) := by decide +kernel
theorem dX7_point_41 : decode cX7_point 41 = .ok (.iload_n 3, 1) := by decide +kernel
theorem dX7_point_42 : decode cX7_point 42 = .ok (.iconst 0, 1) := by decide +kernel
theorem dX7_point_43 : decode cX7_point 43 = .ok (.iload 4, 2) := by decide +kernel
theorem dX7_point_45 : decode cX7_point 45 = .ok (.invokestatic 126, 3) := by decide +kernel
theorem dX7_point_48 : decode cX7_point 48 = .ok (.ifCond .ne 6, 3) := by decide +kernel
theorem dX7_point_51 : decode cX7_point 51 = .ok (.ldc 59, 2) := by decide +kernel
theorem dX7_point_53 : decode cX7_point 53 = .ok (.ireturn, 1) := by decide +kernel
theorem dX7_point_54 : decode cX7_point 54 = .ok (.aload_n 0, 1) := by decide +kernel
theorem dX7_point_55 : decode cX7_point 55 = .ok (.getfield 36, 3) := by decide +kernel
theorem dX7_point_58 : decode cX7_point 58 = .ok (.aload 6, 2) := by decide +kernel
theorem dX7_point_60 : decode cX7_point 60 = .ok (.iload_n 2, 1) := by decide +kernel
theorem dX7_point_61 : decode cX7_point 61 = .ok (.aload 6, 2) := by decide +kernel
theorem dX7_point_63 : decode cX7_point 63 = .ok (.iload_n 2, 1) := by decide +kernel
theorem dX7_point_64 : decode cX7_point 64 = .ok (.invokevirtual 196, 3) := by decide +kernel
theorem dX7_point_67 : decode cX7_point 67 = .ok (.iload 5, 2) := by decide +kernel
theorem dX7_point_69 : decode cX7_point 69 = .ok (.ifCond .eq 7, 3) := by decide +kernel
theorem dX7_point_72 : decode cX7_point 72 = .ok (.iconst 1, 1) := by decide +kernel
theorem dX7_point_73 : decode cX7_point 73 = .ok (.goto 4, 3) := by decide +kernel
theorem dX7_point_76 : decode cX7_point 76 = .ok (.iconst 0, 1) := by decide +kernel
theorem dX7_point_77 : decode cX7_point 77 = .ok (.iload_n 3, 1) := by decide +kernel
theorem dX7_point_78 : decode cX7_point 78 = .ok (.iload 4, 2) := by decide +kernel
theorem dX7_point_80 : decode cX7_point 80 = .ok (.invokevirtual 199, 3) := by decide +kernel
theorem dX7_point_83 : decode cX7_point 83 = .ok (.iload 4, 2) := by decide +kernel
theorem dX7_point_85 : decode cX7_point 85 = .ok (.i2l, 1) := by decide +kernel
theorem dX7_point_86 : decode cX7_point 86 = .ok (.iload 4, 2) := by decide +kernel
theorem dX7_point_88 : decode cX7_point 88 = .ok (.i2l, 1) := by decide +kernel
theorem dX7_point_89 : decode cX7_point 89 = .ok (.lmul, 1) := by decide +kernel
theorem dX7_point_90 : decode cX7_point 90 = .ok (.iload 4, 2) := by decide +kernel
theorem dX7_point_92 : decode cX7_point 92 = .ok (.i2l, 1) := by decide +kernel
theorem dX7_point_93 : decode cX7_point 93 = .ok (.lmul, 1) := by decide +kernel
theorem dX7_point_94 : decode cX7_point 94 = .ok (.lstore 7, 2) := by decide +kernel
theorem dX7_point_96 : decode cX7_point 96 = .ok (.aload_n 0, 1) := by decide +kernel
theorem dX7_point_97 : decode cX7_point 97 = .ok (.getfield 36, 3) := by decide +kernel
theorem dX7_point_100 : decode cX7_point 100 = .ok (.getfield 203, 3) := by decide +kernel
theorem dX7_point_103 : decode cX7_point 103 = .ok (.lload 7, 2) := by decide +kernel
theorem dX7_point_105 : decode cX7_point 105 = .ok (.lrem, 1) := by decide +kernel
theorem dX7_point_106 : decode cX7_point 106 = .ok (.lconst 0, 1) := by decide +kernel
theorem dX7_point_107 : decode cX7_point 107 = .ok (.lcmp, 1) := by decide +kernel
theorem dX7_point_108 : decode cX7_point 108 = .ok (.ifCond .ne 17, 3) := by decide +kernel
theorem dX7_point_111 : decode cX7_point 111 = .ok (.aload_n 0, 1) := by decide +kernel
theorem dX7_point_112 : decode cX7_point 112 = .ok (.getfield 36, 3) := by decide +kernel
theorem dX7_point_115 : decode cX7_point 115 = .ok (.getfield 203, 3) := by decide +kernel
theorem dX7_point_118 : decode cX7_point 118 = .ok (.lload 7, 2) := by decide +kernel
theorem dX7_point_120 : decode cX7_point 120 = .ok (.ldiv, 1) := by decide +kernel
theorem dX7_point_121 : decode cX7_point 121 = .ok (.l2i, 1) := by decide +kernel
theorem dX7_point_122 : decode cX7_point 122 = .ok (.goto 5, 3) := by decide +kernel
theorem dX7_point_125 : decode cX7_point 125 = .ok (.ldc 207, 2) := by decide +kernel
theorem dX7_point_127 : decode cX7_point 127 = .ok (.ireturn, 1) := by decide +kernel
theorem dX7_area_0 : decode cX7_area 0 = .ok (.aload_n 0, 1) := by decide +kernel
theorem dX7_area_1 : decode cX7_area 1 = .ok (.getfield 10, 3) := by decide +kernel
theorem dX7_area_4 : decode cX7_area 4 = .ok (.invokevirtual 76, 3) := by decide +kernel
theorem dX7_area_7 : decode cX7_area 7 = .ok (.iload_n 1, 1) := by decide +kernel
theorem dX7_area_8 : decode cX7_area 8 = .ok (.invokevirtual 87, 3) := by decide +kernel
theorem dX7_area_11 : decode cX7_area 11 = .ok (.astore_n 2, 1) := by decide +kernel
theorem dX7_area_12 : decode cX7_area 12 = .ok (.aload_n 2, 1) := by decide +kernel
theorem dX7_area_13 : decode cX7_area 13 = .ok (.ifnonnull 7, 3) := by decide +kernel
theorem dX7_area_16 : decode cX7_area 16 = .ok (.ldc2_w 208, 3) := by decide +kernel
theorem dX7_area_19 : decode cX7_area 19 = .ok (.lreturn, 1) := by decide +kernel
theorem dX7_area_20 : decode cX7_area 20 = .ok (.aload_n 2, 1) := by decide +kernel
theorem dX7_area_21 : decode cX7_area 21 = .ok (.getfield 92, 3) := by decide +kernel
theorem dX7_area_24 : decode cX7_area 24 = .ok (.ifCond .eq 10, 3) := by decide +kernel
theorem dX7_area_27 : decode cX7_area 27 = .ok (.aload_n 2, 1) := by decide +kernel
theorem dX7_area_28 : decode cX7_area 28 = .ok (.invokevirtual 210, 3) := by decide +kernel
theorem dX7_area_31 : decode cX7_area 31 = .ok (.goto 6, 3) := by decide +kernel
theorem dX7_area_34 : decode cX7_area 34 = .ok (.ldc2_w 214, 3) := by decide +kernel
theorem dX7_area_37 : decode cX7_area 37 = .ok (.lreturn, 1) := by decide +kernel
theorem dX7_box_0 : decode cX7_box 0 = .ok (.aload_n 0, 1) := by decide +kernel
theorem dX7_box_1 : decode cX7_box 1 = .ok (.getfield 10, 3) := by decide +kernel
theorem dX7_box_4 : decode cX7_box 4 = .ok (.invokevirtual 76, 3) := by decide +kernel
theorem dX7_box_7 : decode cX7_box 7 = .ok (.iload_n 1, 1) := by decide +kernel
theorem dX7_box_8 : decode cX7_box 8 = .ok (.invokevirtual 87, 3) := by decide +kernel
theorem dX7_box_11 : decode cX7_box 11 = .ok (.astore_n 3, 1) := by decide +kernel
theorem dX7_box_12 : decode cX7_box 12 = .ok (.aload_n 3, 1) := by decide +kernel
theorem dX7_box_13 : decode cX7_box 13 = .ok (.ifnonnull 6, 3) := by decide +kernel
theorem dX7_box_16 : decode cX7_box 16 = .ok (.ldc 91, 2) := by decide +kernel
theorem dX7_box_18 : decode cX7_box 18 = .ok (.ireturn, 1) := by decide +kernel
theorem dX7_box_19 : decode cX7_box 19 = .ok (.iload_n 2, 1) := by decide +kernel
theorem dX7_box_20 : decode cX7_box 20 = .ok (.iconst 0, 1) := by decide +kernel
theorem dX7_box_21 : decode cX7_box 21 = .ok (.iconst 3, 1) := by decide +kernel
theorem dX7_box_22 : decode cX7_box 22 = .ok (.invokestatic 126, 3) := by decide +kernel
theorem dX7_box_25 : decode cX7_box 25 = .ok (.ifCond .ne 6, 3) := by decide +kernel
theorem dX7_box_28 : decode cX7_box 28 = .ok (.ldc 59, 2) := by decide +kernel
theorem dX7_box_30 : decode cX7_box 30 = .ok (.ireturn, 1) := by decide +kernel
theorem dX7_box_31 : decode cX7_box 31 = .ok (.aload_n 3, 1) := by decide +kernel
theorem dX7_box_32 : decode cX7_box 32 = .ok (.iload_n 2, 1) := by decide +kernel
theorem dX7_box_33 : decode cX7_box 33 = .ok (.iconst 2, 1) := by decide +kernel
theorem dX7_box_34 : decode cX7_box 34 = .ok (.idiv, 1) := by decide +kernel
theorem dX7_box_35 : decode cX7_box 35 = .ok (.iload_n 2, 1) := by decide +kernel
theorem dX7_box_36 : decode cX7_box 36 = .ok (.iconst 2, 1) := by decide +kernel
theorem dX7_box_37 : decode cX7_box 37 = .ok (.irem, 1) := by decide +kernel
theorem dX7_box_38 : decode cX7_box 38 = .ok (.iconst 1, 1) := by decide +kernel
theorem dX7_box_39 : decode cX7_box 39 = .ok (.if_icmp .ne 7, 3) := by decide +kernel
theorem dX7_box_42 : decode cX7_box 42 = .ok (.iconst 1, 1) := by decide +kernel
theorem dX7_box_43 : decode cX7_box 43 = .ok (.goto 4, 3) := by decide +kernel
theorem dX7_box_46 : decode cX7_box 46 = .ok (.iconst 0, 1) := by decide +kernel
theorem dX7_box_47 : decode cX7_box 47 = .ok (.invokevirtual 216, 3) := by decide +kernel
theorem dX7_box_50 : decode cX7_box 50 = .ok (.ireturn, 1) := by decide +kernel
theorem dX7_find_0 : decode cX7_find 0 = .ok (.iload_n 1, 1) := by decide +kernel
theorem dX7_find_1 : decode cX7_find 1 = .ok (.invokestatic 55, 3) := by decide +kernel
theorem dX7_find_4 : decode cX7_find 4 = .ok (.ifCond .eq 10, 3) := by decide +kernel
theorem dX7_find_7 : decode cX7_find 7 = .ok (.iload_n 2, 1) := by decide +kernel
theorem dX7_find_8 : decode cX7_find 8 = .ok (.invokestatic 55, 3) := by decide +kernel
theorem dX7_find_11 : decode cX7_find 11 = .ok (.ifCond .ne 6, 3) := by decide +kernel
theorem dX7_find_14 : decode cX7_find 14 = .ok (.ldc 59, 2) := by decide +kernel
theorem dX7_find_16 : decode cX7_find 16 = .ok (.ireturn, 1) := by decide +kernel
theorem dX7_find_17 : decode cX7_find 17 = .ok (.aload_n 0, 1) := by decide +kernel
theorem dX7_find_18 : decode cX7_find 18 = .ok (.getfield 10, 3) := by decide +kernel
theorem dX7_find_21 : decode cX7_find 21 = .ok (.invokevirtual 76, 3) := by decide +kernel
theorem dX7_find_24 : decode cX7_find 24 = .ok (.astore_n 3, 1) := by decide +kernel
theorem dX7_find_25 : decode cX7_find 25 = .ok (.iconst 0, 1) := by decide +kernel
theorem dX7_find_26 : decode cX7_find 26 = .ok (.istore 4, 2) := by decide +kernel
theorem dX7_find_28 : decode cX7_find 28 = .ok (.iload 4, 2) := by decide +kernel
theorem dX7_find_30 : decode cX7_find 30 = .ok (.aload_n 3, 1) := by decide +kernel
theorem dX7_find_31 : decode cX7_find 31 = .ok (.getfield 79, 3) := by decide +kernel
theorem dX7_find_34 : decode cX7_find 34 = .ok (.if_icmp .ge 45, 3) := by decide +kernel
theorem dX7_find_37 : decode cX7_find 37 = .ok (.aload_n 3, 1) := by decide +kernel
theorem dX7_find_38 : decode cX7_find 38 = .ok (.getfield 220, 3) := by decide +kernel
theorem dX7_find_41 : decode cX7_find 41 = .ok (.iload 4, 2) := by decide +kernel
theorem dX7_find_43 : decode cX7_find 43 = .ok (.aaload, 1) := by decide +kernel
theorem dX7_find_44 : decode cX7_find 44 = .ok (.iload_n 1, 1) := by decide +kernel
theorem dX7_find_45 : decode cX7_find 45 = .ok (.ldc 69, 2) := by decide +kernel
theorem dX7_find_47 : decode cX7_find 47 = .ok (.imul, 1) := by decide +kernel
theorem dX7_find_48 : decode cX7_find 48 = .ok (.iload_n 2, 1) := by decide +kernel
theorem dX7_find_49 : decode cX7_find 49 = .ok (.ldc 69, 2) := by decide +kernel
theorem dX7_find_51 : decode cX7_find 51 = .ok (.imul, 1) := by decide +kernel
theorem dX7_find_52 : decode cX7_find 52 = .ok (.invokevirtual 224, 3) := by decide +kernel
theorem dX7_find_55 : decode cX7_find 55 = .ok (.istore 5, 2) := by decide +kernel
theorem dX7_find_57 : decode cX7_find 57 = .ok (.iload 5, 2) := by decide +kernel
theorem dX7_find_59 : decode cX7_find 59 = .ok (.ldc 227, 2) := by decide +kernel
theorem dX7_find_61 : decode cX7_find 61 = .ok (.if_icmp .eq 12, 3) := by decide +kernel
theorem dX7_find_64 : decode cX7_find 64 = .ok (.bipush 100, 2) := by decide +kernel
theorem dX7_find_66 : decode cX7_find 66 = .ok (.iload 4, 2) := by decide +kernel
theorem dX7_find_68 : decode cX7_find 68 = .ok (.imul, 1) := by decide +kernel
theorem dX7_find_69 : decode cX7_find 69 = .ok (.iload 5, 2) := by decide +kernel
theorem dX7_find_71 : decode cX7_find 71 = .ok (.iadd, 1) := by decide +kernel
theorem dX7_find_72 : decode cX7_find 72 = .ok (.ireturn, 1) := by decide +kernel
theorem dX7_find_73 : decode cX7_find 73 = .ok (.iinc 4 1, 3) := by decide +kernel
theorem dX7_find_76 : decode cX7_find 76 = .ok (.goto (-48), 3) := by decide +kernel
theorem dX7_find_79 : decode cX7_find 79 = .ok (.ldc 227, 2) := by decide +kernel
theorem dX7_find_81 : decode cX7_find 81 = .ok (.ireturn, 1) := by decide +kernel
theorem dX7_corners_0 : decode cX7_corners 0 = .ok (.aload_n 0, 1) := by decide +kernel
theorem dX7_corners_1 : decode cX7_corners 1 = .ok (.getfield 10, 3) := by decide +kernel
theorem dX7_corners_4 : decode cX7_corners 4 = .ok (.invokevirtual 76, 3) := by decide +kernel
theorem dX7_corners_7 : decode cX7_corners 7 = .ok (.iload_n 1, 1) := by decide +kernel
theorem dX7_corners_8 : decode cX7_corners 8 = .ok (.invokevirtual 87, 3) := by decide +kernel
theorem dX7_corners_11 : decode cX7_corners 11 = .ok (.astore_n 2, 1) := by decide +kernel
theorem dX7_corners_12 : decode cX7_corners 12 = .ok (.aload_n 2, 1) := by decide +kernel
theorem dX7_corners_13 : decode cX7_corners 13 = .ok (.ifnonnull 6, 3) := by decide +kernel
theorem dX7_corners_16 : decode cX7_corners 16 = .ok (.ldc 91, 2) := by decide +kernel
theorem dX7_corners_18 : decode cX7_corners 18 = .ok (.ireturn, 1) := by decide +kernel
theorem dX7_corners_19 : decode cX7_corners 19 = .ok (.iconst 0, 1) := by decide +kernel
theorem dX7_corners_20 : decode cX7_corners 20 = .ok (.istore_n 3, 1) := by decide +kernel
theorem dX7_corners_21 : decode cX7_corners 21 = .ok (.iconst 0, 1) := by decide +kernel
theorem dX7_corners_22 : decode cX7_corners 22 = .ok (.istore 4, 2) := by decide +kernel
theorem dX7_corners_24 : decode cX7_corners 24 = .ok (.iload 4, 2) := by decide +kernel
theorem dX7_corners_26 : decode cX7_corners 26 = .ok (.aload_n 2, 1) := by decide +kernel
theorem dX7_corners_27 : decode cX7_corners 27 = .ok (.getfield 97, 3) := by decide +kernel
theorem dX7_corners_30 : decode cX7_corners 30 = .ok (.if_icmp .ge 30, 3) := by decide +kernel
theorem dX7_corners_33 : decode cX7_corners 33 = .ok (.aload_n 2, 1) := by decide +kernel
theorem dX7_corners_34 : decode cX7_corners 34 = .ok (.iload 4, 2) := by decide +kernel
theorem dX7_corners_36 : decode cX7_corners 36 = .ok (.invokevirtual 119, 3) := by decide +kernel
theorem dX7_corners_39 : decode cX7_corners 39 = .ok (.ifCond .ne 15, 3) := by decide +kernel
theorem dX7_corners_42 : decode cX7_corners 42 = .ok (.aload_n 2, 1) := by decide +kernel
theorem dX7_corners_43 : decode cX7_corners 43 = .ok (.iload 4, 2) := by decide +kernel
theorem dX7_corners_45 : decode cX7_corners 45 = .ok (.invokevirtual 150, 3) := by decide +kernel
theorem dX7_corners_48 : decode cX7_corners 48 = .ok (.ifCond .eq 6, 3) := by decide +kernel
theorem dX7_corners_51 : decode cX7_corners 51 = .ok (.iinc 3 1, 3) := by decide +kernel
theorem dX7_corners_54 : decode cX7_corners 54 = .ok (.iinc 4 1, 3) := by decide +kernel
theorem dX7_corners_57 : decode cX7_corners 57 = .ok (.goto (-33), 3) := by decide +kernel
theorem dX7_corners_60 : decode cX7_corners 60 = .ok (.iload_n 3, 1) := by decide +kernel
theorem dX7_corners_61 : decode cX7_corners 61 = .ok (.ireturn, 1) := by decide +kernel
theorem dX7_append_0 : decode cX7_append 0 = .ok (.iload_n 1, 1) := by decide +kernel
theorem dX7_append_1 : decode cX7_append 1 = .ok (.iconst 0, 1) := by decide +kernel
theorem dX7_append_2 : decode cX7_append 2 = .ok (.bipush 127, 2) := by decide +kernel
theorem dX7_append_4 : decode cX7_append 4 = .ok (.invokestatic 126, 3) := by decide +kernel
theorem dX7_append_7 : decode cX7_append 7 = .ok (.ifCond .ne 6, 3) := by decide +kernel
theorem dX7_append_10 : decode cX7_append 10 = .ok (.ldc 59, 2) := by decide +kernel
theorem dX7_append_12 : decode cX7_append 12 = .ok (.ireturn, 1) := by decide +kernel
theorem dX7_append_13 : decode cX7_append 13 = .ok (.aload_n 0, 1) := by decide +kernel
theorem dX7_append_14 : decode cX7_append 14 = .ok (.getfield 43, 3) := by decide +kernel
theorem dX7_append_17 : decode cX7_append 17 = .ok (.getfield 228, 3) := by decide +kernel
theorem dX7_append_20 : decode cX7_append 20 = .ok (.bipush 120, 2) := by decide +kernel
theorem dX7_append_22 : decode cX7_append 22 = .ok (.if_icmp .lt 6, 3) := by decide +kernel
theorem dX7_append_25 : decode cX7_append 25 = .ok (.ldc 68, 2) := by decide +kernel
theorem dX7_append_27 : decode cX7_append 27 = .ok (.ireturn, 1) := by decide +kernel
theorem dX7_append_28 : decode cX7_append 28 = .ok (.aload_n 0, 1) := by decide +kernel
theorem dX7_append_29 : decode cX7_append 29 = .ok (.getfield 43, 3) := by decide +kernel
theorem dX7_append_32 : decode cX7_append 32 = .ok (.iload_n 1, 1) := by decide +kernel
theorem dX7_append_33 : decode cX7_append 33 = .ok (.invokevirtual 231, 3) := by decide +kernel
theorem dX7_append_36 : decode cX7_append 36 = .ok (.aload_n 0, 1) := by decide +kernel
theorem dX7_append_37 : decode cX7_append 37 = .ok (.getfield 43, 3) := by decide +kernel
theorem dX7_append_40 : decode cX7_append 40 = .ok (.getfield 228, 3) := by decide +kernel
theorem dX7_append_43 : decode cX7_append 43 = .ok (.ireturn, 1) := by decide +kernel
theorem dX7_clearText_0 : decode cX7_clearText 0 = .ok (.aload_n 0, 1) := by decide +kernel
theorem dX7_clearText_1 : decode cX7_clearText 1 = .ok (.getfield 43, 3) := by decide +kernel
theorem dX7_clearText_4 : decode cX7_clearText 4 = .ok (.getfield 228, 3) := by decide +kernel
theorem dX7_clearText_7 : decode cX7_clearText 7 = .ok (.istore_n 1, 1) := by decide +kernel
theorem dX7_clearText_8 : decode cX7_clearText 8 = .ok (.aload_n 0, 1) := by decide +kernel
theorem dX7_clearText_9 : decode cX7_clearText 9 = .ok (.getfield 43, 3) := by decide +kernel
theorem dX7_clearText_12 : decode cX7_clearText 12 = .ok (.iconst 0, 1) := by decide +kernel
theorem dX7_clearText_13 : decode cX7_clearText 13 = .ok (.putfield 228, 3) := by decide +kernel
theorem dX7_clearText_16 : decode cX7_clearText 16 = .ok (.iload_n 1, 1) := by decide +kernel
theorem dX7_clearText_17 : decode cX7_clearText 17 = .ok (.ireturn, 1) := by decide +kernel
theorem dX7_faultPosition_0 : decode cX7_faultPosition 0 = .ok (.aload_n 0, 1) := by decide +kernel
theorem dX7_faultPosition_1 : decode cX7_faultPosition 1 = .ok (.getfield 43, 3) := by decide +kernel
theorem dX7_faultPosition_4 : decode cX7_faultPosition 4 = .ok (.invokevirtual 234, 3) := by decide +kernel
theorem dX7_faultPosition_7 : decode cX7_faultPosition 7 = .ok (.aload_n 0, 1) := by decide +kernel
theorem dX7_faultPosition_8 : decode cX7_faultPosition 8 = .ok (.getfield 43, 3) := by decide +kernel
theorem dX7_faultPosition_11 : decode cX7_faultPosition 11 = .ok (.getfield 237, 3) := by decide +kernel
theorem dX7_faultPosition_14 : decode cX7_faultPosition 14 = .ok (.ireturn, 1) := by decide +kernel
theorem dX7_read_0 : decode cX7_read 0 = .ok (.aload_n 0, 1) := by decide +kernel
theorem dX7_read_1 : decode cX7_read 1 = .ok (.getfield 43, 3) := by decide +kernel
theorem dX7_read_4 : decode cX7_read 4 = .ok (.invokevirtual 234, 3) := by decide +kernel
theorem dX7_read_7 : decode cX7_read 7 = .ok (.aload_n 0, 1) := by decide +kernel
theorem dX7_read_8 : decode cX7_read 8 = .ok (.getfield 43, 3) := by decide +kernel
theorem dX7_read_11 : decode cX7_read 11 = .ok (.getfield 237, 3) := by decide +kernel
theorem dX7_read_14 : decode cX7_read 14 = .ok (.ldc 227, 2) := by decide +kernel
theorem dX7_read_16 : decode cX7_read 16 = .ok (.if_icmp .eq 6, 3) := by decide +kernel
theorem dX7_read_19 : decode cX7_read 19 = .ok (.ldc 96, 2) := by decide +kernel
theorem dX7_read_21 : decode cX7_read 21 = .ok (.ireturn, 1) := by decide +kernel
theorem dX7_read_22 : decode cX7_read 22 = .ok (.aload_n 0, 1) := by decide +kernel
theorem dX7_read_23 : decode cX7_read 23 = .ok (.invokevirtual 60, 3) := by decide +kernel
theorem dX7_read_26 : decode cX7_read 26 = .ok (.invokevirtual 64, 3) := by decide +kernel
theorem dX7_read_29 : decode cX7_read 29 = .ok (.astore_n 1, 1) := by decide +kernel
theorem dX7_read_30 : decode cX7_read 30 = .ok (.aload_n 1, 1) := by decide +kernel
theorem dX7_read_31 : decode cX7_read 31 = .ok (.ifnonnull 6, 3) := by decide +kernel
theorem dX7_read_34 : decode cX7_read 34 = .ok (.ldc 68, 2) := by decide +kernel
theorem dX7_read_36 : decode cX7_read 36 = .ok (.ireturn, 1) := by decide +kernel
theorem dX7_read_37 : decode cX7_read 37 = .ok (.aload_n 1, 1) := by decide +kernel
theorem dX7_read_38 : decode cX7_read 38 = .ok (.aload_n 0, 1) := by decide +kernel
theorem dX7_read_39 : decode cX7_read 39 = .ok (.getfield 43, 3) := by decide +kernel
theorem dX7_read_42 : decode cX7_read 42 = .ok (.getfield 240, 3) := by decide +kernel
theorem dX7_read_45 : decode cX7_read 45 = .ok (.invokevirtual 244, 3) := by decide +kernel
theorem dX7_read_48 : decode cX7_read 48 = .ok (.aload_n 0, 1) := by decide +kernel
theorem dX7_read_49 : decode cX7_read 49 = .ok (.aload_n 0, 1) := by decide +kernel
theorem dX7_read_50 : decode cX7_read 50 = .ok (.getfield 10, 3) := by decide +kernel
theorem dX7_read_53 : decode cX7_read 53 = .ok (.invokevirtual 76, 3) := by decide +kernel
theorem dX7_read_56 : decode cX7_read 56 = .ok (.getfield 79, 3) := by decide +kernel
theorem dX7_read_59 : decode cX7_read 59 = .ok (.invokevirtual 83, 3) := by decide +kernel
theorem dX7_read_62 : decode cX7_read 62 = .ok (.ireturn, 1) := by decide +kernel
theorem dX7_print_0 : decode cX7_print 0 = .ok (.aload_n 0, 1) := by decide +kernel
theorem dX7_print_1 : decode cX7_print 1 = .ok (.getfield 10, 3) := by decide +kernel
theorem dX7_print_4 : decode cX7_print 4 = .ok (.invokevirtual 76, 3) := by decide +kernel
theorem dX7_print_7 : decode cX7_print 7 = .ok (.iload_n 1, 1) := by decide +kernel
theorem dX7_print_8 : decode cX7_print 8 = .ok (.invokevirtual 87, 3) := by decide +kernel
theorem dX7_print_11 : decode cX7_print 11 = .ok (.astore_n 2, 1) := by decide +kernel
theorem dX7_print_12 : decode cX7_print 12 = .ok (.aload_n 2, 1) := by decide +kernel
theorem dX7_print_13 : decode cX7_print 13 = .ok (.ifnonnull 6, 3) := by decide +kernel
theorem dX7_print_16 : decode cX7_print 16 = .ok (.ldc 91, 2) := by decide +kernel
theorem dX7_print_18 : decode cX7_print 18 = .ok (.ireturn, 1) := by decide +kernel
theorem dX7_print_19 : decode cX7_print 19 = .ok (.aload_n 2, 1) := by decide +kernel
theorem dX7_print_20 : decode cX7_print 20 = .ok (.invokestatic 247, 3) := by decide +kernel
theorem dX7_print_23 : decode cX7_print 23 = .ok (.ifCond .ne 6, 3) := by decide +kernel
theorem dX7_print_26 : decode cX7_print 26 = .ok (.ldc 96, 2) := by decide +kernel
theorem dX7_print_28 : decode cX7_print 28 = .ok (.ireturn, 1) := by decide +kernel
theorem dX7_print_29 : decode cX7_print 29 = .ok (.aload_n 0, 1) := by decide +kernel
theorem dX7_print_30 : decode cX7_print 30 = .ok (.getfield 50, 3) := by decide +kernel
theorem dX7_print_33 : decode cX7_print 33 = .ok (.aload_n 2, 1) := by decide +kernel
theorem dX7_print_34 : decode cX7_print 34 = .ok (.invokevirtual 250, 3) := by decide +kernel
theorem dX7_print_37 : decode cX7_print 37 = .ok (.aload_n 0, 1) := by decide +kernel
theorem dX7_print_38 : decode cX7_print 38 = .ok (.getfield 50, 3) := by decide +kernel
theorem dX7_print_41 : decode cX7_print 41 = .ok (.getfield 253, 3) := by decide +kernel
theorem dX7_print_44 : decode cX7_print 44 = .ok (.ireturn, 1) := by decide +kernel
theorem dX7_printed_0 : decode cX7_printed 0 = .ok (.iload_n 1, 1) := by decide +kernel
theorem dX7_printed_1 : decode cX7_printed 1 = .ok (.ifCond .lt 14, 3) := by decide +kernel
theorem dX7_printed_4 : decode cX7_printed 4 = .ok (.iload_n 1, 1) := by decide +kernel
theorem dX7_printed_5 : decode cX7_printed 5 = .ok (.aload_n 0, 1) := by decide +kernel
theorem dX7_printed_6 : decode cX7_printed 6 = .ok (.getfield 50, 3) := by decide +kernel
theorem dX7_printed_9 : decode cX7_printed 9 = .ok (.getfield 253, 3) := by decide +kernel
theorem dX7_printed_12 : decode cX7_printed 12 = .ok (.if_icmp .lt 8, 3) := by decide +kernel
theorem dX7_printed_15 : decode cX7_printed 15 = .ok (.ldc 91, 2) := by decide +kernel
theorem dX7_printed_17 : decode cX7_printed 17 = .ok (.goto 12, 3) := by decide +kernel
theorem dX7_printed_20 : decode cX7_printed 20 = .ok (.aload_n 0, 1) := by decide +kernel
theorem dX7_printed_21 : decode cX7_printed 21 = .ok (.getfield 50, 3) := by decide +kernel
theorem dX7_printed_24 : decode cX7_printed 24 = .ok (.getfield 254, 3) := by decide +kernel
theorem dX7_printed_27 : decode cX7_printed 27 = .ok (.iload_n 1, 1) := by decide +kernel
theorem dX7_printed_28 : decode cX7_printed 28 = .ok (.baload, 1) := by decide +kernel
theorem dX7_printed_29 : decode cX7_printed 29 = .ok (.ireturn, 1) := by decide +kernel
theorem dX7_save_0 : decode cX7_save 0 = .ok (.iload_n 1, 1) := by decide +kernel
theorem dX7_save_1 : decode cX7_save 1 = .ok (.ifCond .lt 8, 3) := by decide +kernel
theorem dX7_save_4 : decode cX7_save 4 = .ok (.iload_n 1, 1) := by decide +kernel
theorem dX7_save_5 : decode cX7_save 5 = .ok (.iconst 2, 1) := by decide +kernel
theorem dX7_save_6 : decode cX7_save 6 = .ok (.if_icmp .lt 6, 3) := by decide +kernel
theorem dX7_save_9 : decode cX7_save 9 = .ok (.ldc 91, 2) := by decide +kernel
theorem dX7_save_11 : decode cX7_save 11 = .ok (.ireturn, 1) := by decide +kernel
theorem dX7_save_12 : decode cX7_save 12 = .ok (.aload_n 0, 1) := by decide +kernel
theorem dX7_save_13 : decode cX7_save 13 = .ok (.getfield 18, 3) := by decide +kernel
theorem dX7_save_16 : decode cX7_save 16 = .ok (.iload_n 1, 1) := by decide +kernel
theorem dX7_save_17 : decode cX7_save 17 = .ok (.aaload, 1) := by decide +kernel
theorem dX7_save_18 : decode cX7_save 18 = .ok (.aload_n 0, 1) := by decide +kernel
theorem dX7_save_19 : decode cX7_save 19 = .ok (.getfield 10, 3) := by decide +kernel
theorem dX7_save_22 : decode cX7_save 22 = .ok (.invokevirtual 76, 3) := by decide +kernel
theorem dX7_save_25 : decode cX7_save 25 = .ok (.invokevirtual 258, 3) := by decide +kernel
theorem dX7_save_28 : decode cX7_save 28 = .ok (.aload_n 0, 1) := by decide +kernel
theorem dX7_save_29 : decode cX7_save 29 = .ok (.getfield 22, 3) := by decide +kernel
theorem dX7_save_32 : decode cX7_save 32 = .ok (.iload_n 1, 1) := by decide +kernel
theorem dX7_save_33 : decode cX7_save 33 = .ok (.iconst 1, 1) := by decide +kernel
theorem dX7_save_34 : decode cX7_save 34 = .ok (.bastore, 1) := by decide +kernel
theorem dX7_save_35 : decode cX7_save 35 = .ok (.aload_n 0, 1) := by decide +kernel
theorem dX7_save_36 : decode cX7_save 36 = .ok (.getfield 18, 3) := by decide +kernel
theorem dX7_save_39 : decode cX7_save 39 = .ok (.iload_n 1, 1) := by decide +kernel
theorem dX7_save_40 : decode cX7_save 40 = .ok (.aaload, 1) := by decide +kernel
theorem dX7_save_41 : decode cX7_save 41 = .ok (.getfield 79, 3) := by decide +kernel
theorem dX7_save_44 : decode cX7_save 44 = .ok (.ireturn, 1) := by decide +kernel
theorem dX7_restore_0 : decode cX7_restore 0 = .ok (.iload_n 1, 1) := by decide +kernel
theorem dX7_restore_1 : decode cX7_restore 1 = .ok (.ifCond .lt 8, 3) := by decide +kernel
theorem dX7_restore_4 : decode cX7_restore 4 = .ok (.iload_n 1, 1) := by decide +kernel
theorem dX7_restore_5 : decode cX7_restore 5 = .ok (.iconst 2, 1) := by decide +kernel
theorem dX7_restore_6 : decode cX7_restore 6 = .ok (.if_icmp .lt 6, 3) := by decide +kernel
theorem dX7_restore_9 : decode cX7_restore 9 = .ok (.ldc 91, 2) := by decide +kernel
theorem dX7_restore_11 : decode cX7_restore 11 = .ok (.ireturn, 1) := by decide +kernel
theorem dX7_restore_12 : decode cX7_restore 12 = .ok (.aload_n 0, 1) := by decide +kernel
theorem dX7_restore_13 : decode cX7_restore 13 = .ok (.getfield 22, 3) := by decide +kernel
theorem dX7_restore_16 : decode cX7_restore 16 = .ok (.iload_n 1, 1) := by decide +kernel
theorem dX7_restore_17 : decode cX7_restore 17 = .ok (.baload, 1) := by decide +kernel
theorem dX7_restore_18 : decode cX7_restore 18 = .ok (.ifCond .ne 6, 3) := by decide +kernel
theorem dX7_restore_21 : decode cX7_restore 21 = .ok (.ldc 96, 2) := by decide +kernel
theorem dX7_restore_23 : decode cX7_restore 23 = .ok (.ireturn, 1) := by decide +kernel
theorem dX7_restore_24 : decode cX7_restore 24 = .ok (.aload_n 0, 1) := by decide +kernel
theorem dX7_restore_25 : decode cX7_restore 25 = .ok (.getfield 10, 3) := by decide +kernel
theorem dX7_restore_28 : decode cX7_restore 28 = .ok (.aload_n 0, 1) := by decide +kernel
theorem dX7_restore_29 : decode cX7_restore 29 = .ok (.getfield 18, 3) := by decide +kernel
theorem dX7_restore_32 : decode cX7_restore 32 = .ok (.iload_n 1, 1) := by decide +kernel
theorem dX7_restore_33 : decode cX7_restore 33 = .ok (.aaload, 1) := by decide +kernel
theorem dX7_restore_34 : decode cX7_restore 34 = .ok (.invokevirtual 261, 3) := by decide +kernel
theorem dX7_restore_37 : decode cX7_restore 37 = .ok (.aload_n 0, 1) := by decide +kernel
theorem dX7_restore_38 : decode cX7_restore 38 = .ok (.getfield 10, 3) := by decide +kernel
theorem dX7_restore_41 : decode cX7_restore 41 = .ok (.invokevirtual 76, 3) := by decide +kernel
theorem dX7_restore_44 : decode cX7_restore 44 = .ok (.getfield 79, 3) := by decide +kernel
theorem dX7_restore_47 : decode cX7_restore 47 = .ok (.ireturn, 1) := by decide +kernel
theorem dX7_checksum_0 : decode cX7_checksum 0 = .ok (.aload_n 0, 1) := by decide +kernel
theorem dX7_checksum_1 : decode cX7_checksum 1 = .ok (.getfield 10, 3) := by decide +kernel
theorem dX7_checksum_4 : decode cX7_checksum 4 = .ok (.invokevirtual 76, 3) := by decide +kernel
theorem dX7_checksum_7 : decode cX7_checksum 7 = .ok (.astore_n 1, 1) := by decide +kernel
theorem dX7_checksum_8 : decode cX7_checksum 8 = .ok (.ldc2_w 264, 3) := by decide +kernel
theorem dX7_checksum_11 : decode cX7_checksum 11 = .ok (.aload_n 1, 1) := by decide +kernel
theorem dX7_checksum_12 : decode cX7_checksum 12 = .ok (.getfield 79, 3) := by decide +kernel
theorem dX7_checksum_15 : decode cX7_checksum 15 = .ok (.i2l, 1) := by decide +kernel
theorem dX7_checksum_16 : decode cX7_checksum 16 = .ok (.ladd, 1) := by decide +kernel
theorem dX7_checksum_17 : decode cX7_checksum 17 = .ok (.lstore_n 2, 1) := by decide +kernel
theorem dX7_checksum_18 : decode cX7_checksum 18 = .ok (.iconst 0, 1) := by decide +kernel
theorem dX7_checksum_19 : decode cX7_checksum 19 = .ok (.istore 4, 2) := by decide +kernel
theorem dX7_checksum_21 : decode cX7_checksum 21 = .ok (.iload 4, 2) := by decide +kernel
theorem dX7_checksum_23 : decode cX7_checksum 23 = .ok (.aload_n 1, 1) := by decide +kernel
theorem dX7_checksum_24 : decode cX7_checksum 24 = .ok (.getfield 79, 3) := by decide +kernel
theorem dX7_checksum_27 : decode cX7_checksum 27 = .ok (.if_icmp .ge 21, 3) := by decide +kernel
theorem dX7_checksum_30 : decode cX7_checksum 30 = .ok (.aload_n 1, 1) := by decide +kernel
theorem dX7_checksum_31 : decode cX7_checksum 31 = .ok (.getfield 220, 3) := by decide +kernel
theorem dX7_checksum_34 : decode cX7_checksum 34 = .ok (.iload 4, 2) := by decide +kernel
theorem dX7_checksum_36 : decode cX7_checksum 36 = .ok (.aaload, 1) := by decide +kernel
theorem dX7_checksum_37 : decode cX7_checksum 37 = .ok (.lload_n 2, 1) := by decide +kernel
theorem dX7_checksum_38 : decode cX7_checksum 38 = .ok (.invokevirtual 266, 3) := by decide +kernel
theorem dX7_checksum_41 : decode cX7_checksum 41 = .ok (.lstore_n 2, 1) := by decide +kernel
theorem dX7_checksum_42 : decode cX7_checksum 42 = .ok (.iinc 4 1, 3) := by decide +kernel
theorem dX7_checksum_45 : decode cX7_checksum 45 = .ok (.goto (-24), 3) := by decide +kernel
theorem dX7_checksum_48 : decode cX7_checksum 48 = .ok (.lload_n 2, 1) := by decide +kernel
theorem dX7_checksum_49 : decode cX7_checksum 49 = .ok (.lreturn, 1) := by decide +kernel
theorem dX7_startChange_0 : decode cX7_startChange 0 = .ok (.aload_n 0, 1) := by decide +kernel
theorem dX7_startChange_1 : decode cX7_startChange 1 = .ok (.getfield 29, 3) := by decide +kernel
theorem dX7_startChange_4 : decode cX7_startChange 4 = .ok (.invokevirtual 270, 3) := by decide +kernel
theorem dX7_startChange_7 : decode cX7_startChange 7 = .ok (.aload_n 0, 1) := by decide +kernel
theorem dX7_startChange_8 : decode cX7_startChange 8 = .ok (.getfield 10, 3) := by decide +kernel
theorem dX7_startChange_11 : decode cX7_startChange 11 = .ok (.invokevirtual 273, 3) := by decide +kernel
theorem dX7_startChange_14 : decode cX7_startChange 14 = .ok (.areturn, 1) := by decide +kernel
theorem dX7_endChange_0 : decode cX7_endChange 0 = .ok (.aload_n 0, 1) := by decide +kernel
theorem dX7_endChange_1 : decode cX7_endChange 1 = .ok (.getfield 29, 3) := by decide +kernel
theorem dX7_endChange_4 : decode cX7_endChange 4 = .ok (.invokevirtual 276, 3) := by decide +kernel
theorem dX7_endChange_7 : decode cX7_endChange 7 = .ok (.istore_n 2, 1) := by decide +kernel
theorem dX7_endChange_8 : decode cX7_endChange 8 = .ok (.iload_n 2, 1) := by decide +kernel
theorem dX7_endChange_9 : decode cX7_endChange 9 = .ok (.ifCond .eq 5, 3) := by decide +kernel
theorem dX7_endChange_12 : decode cX7_endChange 12 = .ok (.iload_n 2, 1) := by decide +kernel
theorem dX7_endChange_13 : decode cX7_endChange 13 = .ok (.ireturn, 1) := by decide +kernel
theorem dX7_endChange_14 : decode cX7_endChange 14 = .ok (.aload_n 0, 1) := by decide +kernel
theorem dX7_endChange_15 : decode cX7_endChange 15 = .ok (.getfield 10, 3) := by decide +kernel
theorem dX7_endChange_18 : decode cX7_endChange 18 = .ok (.invokevirtual 280, 3) := by decide +kernel
theorem dX7_endChange_21 : decode cX7_endChange 21 = .ok (.iload_n 1, 1) := by decide +kernel
theorem dX7_endChange_22 : decode cX7_endChange 22 = .ok (.ireturn, 1) := by decide +kernel
theorem dX7_isBetween_0 : decode cX7_isBetween 0 = .ok (.iload_n 1, 1) := by decide +kernel
theorem dX7_isBetween_1 : decode cX7_isBetween 1 = .ok (.iload_n 0, 1) := by decide +kernel
theorem dX7_isBetween_2 : decode cX7_isBetween 2 = .ok (.if_icmp .gt 12, 3) := by decide +kernel
theorem dX7_isBetween_5 : decode cX7_isBetween 5 = .ok (.iload_n 0, 1) := by decide +kernel
theorem dX7_isBetween_6 : decode cX7_isBetween 6 = .ok (.iload_n 2, 1) := by decide +kernel
theorem dX7_isBetween_7 : decode cX7_isBetween 7 = .ok (.if_icmp .gt 7, 3) := by decide +kernel
theorem dX7_isBetween_10 : decode cX7_isBetween 10 = .ok (.iconst 1, 1) := by decide +kernel
theorem dX7_isBetween_11 : decode cX7_isBetween 11 = .ok (.goto 4, 3) := by decide +kernel
theorem dX7_isBetween_14 : decode cX7_isBetween 14 = .ok (.iconst 0, 1) := by decide +kernel
theorem dX7_isBetween_15 : decode cX7_isBetween 15 = .ok (.ireturn, 1) := by decide +kernel
theorem dX7_isLength_0 : decode cX7_isLength 0 = .ok (.iload_n 0, 1) := by decide +kernel
theorem dX7_isLength_1 : decode cX7_isLength 1 = .ok (.sipush (-200), 3) := by decide +kernel
theorem dX7_isLength_4 : decode cX7_isLength 4 = .ok (.sipush 200, 3) := by decide +kernel
theorem dX7_isLength_7 : decode cX7_isLength 7 = .ok (.invokestatic 126, 3) := by decide +kernel
theorem dX7_isLength_10 : decode cX7_isLength 10 = .ok (.ireturn, 1) := by decide +kernel
theorem dX7_isFactor_0 : decode cX7_isFactor 0 = .ok (.iload_n 0, 1) := by decide +kernel
theorem dX7_isFactor_1 : decode cX7_isFactor 1 = .ok (.bipush (-9), 2) := by decide +kernel
theorem dX7_isFactor_3 : decode cX7_isFactor 3 = .ok (.bipush 9, 2) := by decide +kernel
theorem dX7_isFactor_5 : decode cX7_isFactor 5 = .ok (.invokestatic 126, 3) := by decide +kernel
theorem dX7_isFactor_8 : decode cX7_isFactor 8 = .ok (.ireturn, 1) := by decide +kernel
theorem dX8_init_0 : decode cX8_init 0 = .ok (.aload_n 0, 1) := by decide +kernel
theorem dX8_init_1 : decode cX8_init 1 = .ok (.invokespecial 1, 3) := by decide +kernel
theorem dX8_init_4 : decode cX8_init 4 = .ok (.aload_n 0, 1) := by decide +kernel
theorem dX8_init_5 : decode cX8_init 5 = .ok (.sipush 589, 3) := by decide +kernel
theorem dX8_init_8 : decode cX8_init 8 = .ok (.newarray .int, 2) := by decide +kernel
theorem dX8_init_10 : decode cX8_init 10 = .ok (.putfield 7, 3) := by decide +kernel
theorem dX8_init_13 : decode cX8_init 13 = .ok (.aload_n 0, 1) := by decide +kernel
theorem dX8_init_14 : decode cX8_init 14 = .ok (.sipush 589, 3) := by decide +kernel
theorem dX8_init_17 : decode cX8_init 17 = .ok (.newarray .int, 2) := by decide +kernel
theorem dX8_init_19 : decode cX8_init 19 = .ok (.putfield 13, 3) := by decide +kernel
theorem dX8_init_22 : decode cX8_init 22 = .ok (.aload_n 0, 1) := by decide +kernel
theorem dX8_init_23 : decode cX8_init 23 = .ok (.sipush 5890, 3) := by decide +kernel
theorem dX8_init_26 : decode cX8_init 26 = .ok (.newarray .int, 2) := by decide +kernel
theorem dX8_init_28 : decode cX8_init 28 = .ok (.putfield 16, 3) := by decide +kernel
theorem dX8_init_31 : decode cX8_init 31 = .ok (.aload_n 0, 1) := by decide +kernel
theorem dX8_init_32 : decode cX8_init 32 = .ok (.sipush 5890, 3) := by decide +kernel
theorem dX8_init_35 : decode cX8_init 35 = .ok (.newarray .int, 2) := by decide +kernel
theorem dX8_init_37 : decode cX8_init 37 = .ok (.putfield 19, 3) := by decide +kernel
theorem dX8_init_40 : decode cX8_init 40 = .ok (.aload_n 0, 1) := by decide +kernel
theorem dX8_init_41 : decode cX8_init 41 = .ok (.sipush 1178, 3) := by decide +kernel
theorem dX8_init_44 : decode cX8_init 44 = .ok (.newarray .int, 2) := by decide +kernel
theorem dX8_init_46 : decode cX8_init 46 = .ok (.putfield 22, 3) := by decide +kernel
theorem dX8_init_49 : decode cX8_init 49 = .ok (.aload_n 0, 1) := by decide +kernel
theorem dX8_init_50 : decode cX8_init 50 = .ok (.iconst 2, 1) := by decide +kernel
theorem dX8_init_51 : decode cX8_init 51 = .ok (.newarray .boolean, 2) := by decide +kernel
theorem dX8_init_53 : decode cX8_init 53 = .ok (.putfield 25, 3) := by decide +kernel
theorem dX8_init_56 : decode cX8_init 56 = .ok (.aload_n 0, 1) := by decide +kernel
theorem dX8_init_57 : decode cX8_init 57 = .ok (.bipush 120, 2) := by decide +kernel
theorem dX8_init_59 : decode cX8_init 59 = .ok (.newarray .int, 2) := by decide +kernel
theorem dX8_init_61 : decode cX8_init 61 = .ok (.putfield 29, 3) := by decide +kernel
theorem dX8_init_64 : decode cX8_init 64 = .ok (.aload_n 0, 1) := by decide +kernel
theorem dX8_init_65 : decode cX8_init 65 = .ok (.sipush 500, 3) := by decide +kernel
theorem dX8_init_68 : decode cX8_init 68 = .ok (.newarray .int, 2) := by decide +kernel
theorem dX8_init_70 : decode cX8_init 70 = .ok (.putfield 32, 3) := by decide +kernel
theorem dX8_init_73 : decode cX8_init 73 = .ok (.aload_n 0, 1) := by decide +kernel
theorem dX8_init_74 : decode cX8_init 74 = .ok (.bipush 8, 2) := by decide +kernel
theorem dX8_init_76 : decode cX8_init 76 = .ok (.newarray .int, 2) := by decide +kernel
theorem dX8_init_78 : decode cX8_init 78 = .ok (.putfield 35, 3) := by decide +kernel
theorem dX8_init_81 : decode cX8_init 81 = .ok (.aload_n 0, 1) := by decide +kernel
theorem dX8_init_82 : decode cX8_init 82 = .ok (.sipush 208, 3) := by decide +kernel
theorem dX8_init_85 : decode cX8_init 85 = .ok (.newarray .int, 2) := by decide +kernel
theorem dX8_init_87 : decode cX8_init 87 = .ok (.putfield 38, 3) := by decide +kernel
theorem dX8_init_90 : decode cX8_init 90 = .ok (.aload_n 0, 1) := by decide +kernel
theorem dX8_init_91 : decode cX8_init 91 = .ok (.bipush 96, 2) := by decide +kernel
theorem dX8_init_93 : decode cX8_init 93 = .ok (.newarray .int, 2) := by decide +kernel
theorem dX8_init_95 : decode cX8_init 95 = .ok (.putfield 41, 3) := by decide +kernel
theorem dX8_init_98 : decode cX8_init 98 = .ok (.aload_n 0, 1) := by decide +kernel
theorem dX8_init_99 : decode cX8_init 99 = .ok (.sipush 500, 3) := by decide +kernel
theorem dX8_init_102 : decode cX8_init 102 = .ok (.newarray .int, 2) := by decide +kernel
theorem dX8_init_104 : decode cX8_init 104 = .ok (.putfield 44, 3) := by decide +kernel
theorem dX8_init_107 : decode cX8_init 107 = .ok (.return_, 1) := by decide +kernel
theorem dX8_in_0 : decode cX8_in 0 = .ok (.iload_n 0, 1) := by decide +kernel
theorem dX8_in_1 : decode cX8_in 1 = .ok (.iload_n 1, 1) := by decide +kernel
theorem dX8_in_2 : decode cX8_in 2 = .ok (.if_icmp .lt 12, 3) := by decide +kernel
theorem dX8_in_5 : decode cX8_in 5 = .ok (.iload_n 0, 1) := by decide +kernel
theorem dX8_in_6 : decode cX8_in 6 = .ok (.iload_n 2, 1) := by decide +kernel
theorem dX8_in_7 : decode cX8_in 7 = .ok (.if_icmp .gt 7, 3) := by decide +kernel
theorem dX8_in_10 : decode cX8_in 10 = .ok (.iconst 1, 1) := by decide +kernel
theorem dX8_in_11 : decode cX8_in 11 = .ok (.goto 4, 3) := by decide +kernel
theorem dX8_in_14 : decode cX8_in 14 = .ok (.iconst 0, 1) := by decide +kernel
theorem dX8_in_15 : decode cX8_in 15 = .ok (.ireturn, 1) := by decide +kernel
theorem dX8_isUnits_0 : decode cX8_isUnits 0 = .ok (.iload_n 0, 1) := by decide +kernel
theorem dX8_isUnits_1 : decode cX8_isUnits 1 = .ok (.sipush (-200), 3) := by decide +kernel
theorem dX8_isUnits_4 : decode cX8_isUnits 4 = .ok (.sipush 200, 3) := by decide +kernel
theorem dX8_isUnits_7 : decode cX8_isUnits 7 = .ok (.invokestatic 47, 3) := by decide +kernel
theorem dX8_isUnits_10 : decode cX8_isUnits 10 = .ok (.ifCond .eq 20, 3) := by decide +kernel
theorem dX8_isUnits_13 : decode cX8_isUnits 13 = .ok (.iload_n 1, 1) := by decide +kernel
theorem dX8_isUnits_14 : decode cX8_isUnits 14 = .ok (.sipush (-200), 3) := by decide +kernel
theorem dX8_isUnits_17 : decode cX8_isUnits 17 = .ok (.sipush 200, 3) := by decide +kernel
theorem dX8_isUnits_20 : decode cX8_isUnits 20 = .ok (.invokestatic 47, 3) := by decide +kernel
theorem dX8_isUnits_23 : decode cX8_isUnits 23 = .ok (.ifCond .eq 7, 3) := by decide +kernel
theorem dX8_isUnits_26 : decode cX8_isUnits 26 = .ok (.iconst 1, 1) := by decide +kernel
theorem dX8_isUnits_27 : decode cX8_isUnits 27 = .ok (.goto 4, 3) := by decide +kernel
theorem dX8_isUnits_30 : decode cX8_isUnits 30 = .ok (.iconst 0, 1) := by decide +kernel
theorem dX8_isUnits_31 : decode cX8_isUnits 31 = .ok (.ireturn, 1) := by decide +kernel
theorem dX8_divisor_0 : decode cX8_divisor 0 = .ok (.iload_n 0, 1) := by decide +kernel
theorem dX8_divisor_1 : decode cX8_divisor 1 = .ok (.istore_n 2, 1) := by decide +kernel
theorem dX8_divisor_2 : decode cX8_divisor 2 = .ok (.iload_n 1, 1) := by decide +kernel
theorem dX8_divisor_3 : decode cX8_divisor 3 = .ok (.istore_n 3, 1) := by decide +kernel
theorem dX8_divisor_4 : decode cX8_divisor 4 = .ok (.iload_n 3, 1) := by decide +kernel
theorem dX8_divisor_5 : decode cX8_divisor 5 = .ok (.ifCond .eq 16, 3) := by decide +kernel
theorem dX8_divisor_8 : decode cX8_divisor 8 = .ok (.iload_n 2, 1) := by decide +kernel
theorem dX8_divisor_9 : decode cX8_divisor 9 = .ok (.iload_n 3, 1) := by decide +kernel
theorem dX8_divisor_10 : decode cX8_divisor 10 = .ok (.irem, 1) := by decide +kernel
theorem dX8_divisor_11 : decode cX8_divisor 11 = .ok (.istore 4, 2) := by decide +kernel
theorem dX8_divisor_13 : decode cX8_divisor 13 = .ok (.iload_n 3, 1) := by decide +kernel
theorem dX8_divisor_14 : decode cX8_divisor 14 = .ok (.istore_n 2, 1) := by decide +kernel
theorem dX8_divisor_15 : decode cX8_divisor 15 = .ok (.iload 4, 2) := by decide +kernel
theorem dX8_divisor_17 : decode cX8_divisor 17 = .ok (.istore_n 3, 1) := by decide +kernel
theorem dX8_divisor_18 : decode cX8_divisor 18 = .ok (.goto (-14), 3) := by decide +kernel
theorem dX8_divisor_21 : decode cX8_divisor 21 = .ok (.iload_n 2, 1) := by decide +kernel
theorem dX8_divisor_22 : decode cX8_divisor 22 = .ok (.ireturn, 1) := by decide +kernel
theorem dX8_path_0 : decode cX8_path 0 = .ok (.iconst 1, 1) := by decide +kernel
theorem dX8_path_1 : decode cX8_path 1 = .ok (.bipush 98, 2) := by decide +kernel
theorem dX8_path_3 : decode cX8_path 3 = .ok (.iload_n 0, 1) := by decide +kernel
theorem dX8_path_4 : decode cX8_path 4 = .ok (.imul, 1) := by decide +kernel
theorem dX8_path_5 : decode cX8_path 5 = .ok (.iadd, 1) := by decide +kernel
theorem dX8_path_6 : decode cX8_path 6 = .ok (.ireturn, 1) := by decide +kernel
theorem dX8_many_0 : decode cX8_many 0 = .ok (.aload_n 0, 1) := by decide +kernel
theorem dX8_many_1 : decode cX8_many 1 = .ok (.getfield 7, 3) := by decide +kernel
theorem dX8_many_4 : decode cX8_many 4 = .ok (.iload_n 1, 1) := by decide +kernel
theorem dX8_many_5 : decode cX8_many 5 = .ok (.invokestatic 51, 3) := by decide +kernel
theorem dX8_many_8 : decode cX8_many 8 = .ok (.iaload, 1) := by decide +kernel
theorem dX8_many_9 : decode cX8_many 9 = .ok (.ireturn, 1) := by decide +kernel
theorem dX8_isShut_0 : decode cX8_isShut 0 = .ok (.aload_n 0, 1) := by decide +kernel
theorem dX8_isShut_1 : decode cX8_isShut 1 = .ok (.getfield 7, 3) := by decide +kernel
theorem dX8_isShut_4 : decode cX8_isShut 4 = .ok (.iload_n 1, 1) := by decide +kernel
theorem dX8_isShut_5 : decode cX8_isShut 5 = .ok (.invokestatic 51, 3) := by decide +kernel
theorem dX8_isShut_8 : decode cX8_isShut 8 = .ok (.iconst 1, 1) := by decide +kernel
theorem dX8_isShut_9 : decode cX8_isShut 9 = .ok (.iadd, 1) := by decide +kernel
theorem dX8_isShut_10 : decode cX8_isShut 10 = .ok (.iaload, 1) := by decide +kernel
theorem dX8_isShut_11 : decode cX8_isShut 11 = .ok (.iconst 1, 1) := by decide +kernel
theorem dX8_isShut_12 : decode cX8_isShut 12 = .ok (.if_icmp .ne 7, 3) := by decide +kernel
theorem dX8_isShut_15 : decode cX8_isShut 15 = .ok (.iconst 1, 1) := by decide +kernel
theorem dX8_isShut_16 : decode cX8_isShut 16 = .ok (.goto 4, 3) := by decide +kernel
theorem dX8_isShut_19 : decode cX8_isShut 19 = .ok (.iconst 0, 1) := by decide +kernel
theorem dX8_isShut_20 : decode cX8_isShut 20 = .ok (.ireturn, 1) := by decide +kernel
theorem dX8_node_0 : decode cX8_node 0 = .ok (.iload_n 0, 1) := by decide +kernel
theorem dX8_node_1 : decode cX8_node 1 = .ok (.invokestatic 51, 3) := by decide +kernel
theorem dX8_node_4 : decode cX8_node 4 = .ok (.iconst 2, 1) := by decide +kernel
theorem dX8_node_5 : decode cX8_node 5 = .ok (.iadd, 1) := by decide +kernel
theorem dX8_node_6 : decode cX8_node 6 = .ok (.bipush 8, 2) := by decide +kernel
theorem dX8_node_8 : decode cX8_node 8 = .ok (.iload_n 1, 1) := by decide +kernel
theorem dX8_node_9 : decode cX8_node 9 = .ok (.imul, 1) := by decide +kernel
theorem dX8_node_10 : decode cX8_node 10 = .ok (.iadd, 1) := by decide +kernel
theorem dX8_node_11 : decode cX8_node 11 = .ok (.iload_n 2, 1) := by decide +kernel
theorem dX8_node_12 : decode cX8_node 12 = .ok (.iadd, 1) := by decide +kernel
theorem dX8_node_13 : decode cX8_node 13 = .ok (.ireturn, 1) := by decide +kernel
theorem dX8_isPath_0 : decode cX8_isPath 0 = .ok (.iload_n 1, 1) := by decide +kernel
theorem dX8_isPath_1 : decode cX8_isPath 1 = .ok (.iconst 0, 1) := by decide +kernel
theorem dX8_isPath_2 : decode cX8_isPath 2 = .ok (.aload_n 0, 1) := by decide +kernel
theorem dX8_isPath_3 : decode cX8_isPath 3 = .ok (.getfield 7, 3) := by decide +kernel
theorem dX8_isPath_6 : decode cX8_isPath 6 = .ok (.iconst 0, 1) := by decide +kernel
theorem dX8_isPath_7 : decode cX8_isPath 7 = .ok (.iaload, 1) := by decide +kernel
theorem dX8_isPath_8 : decode cX8_isPath 8 = .ok (.iconst 1, 1) := by decide +kernel
theorem dX8_isPath_9 : decode cX8_isPath 9 = .ok (.isub, 1) := by decide +kernel
theorem dX8_isPath_10 : decode cX8_isPath 10 = .ok (.invokestatic 47, 3) := by decide +kernel
theorem dX8_isPath_13 : decode cX8_isPath 13 = .ok (.ireturn, 1) := by decide +kernel
theorem dX8_isNode_0 : decode cX8_isNode 0 = .ok (.aload_n 0, 1) := by decide +kernel
theorem dX8_isNode_1 : decode cX8_isNode 1 = .ok (.iload_n 1, 1) := by decide +kernel
theorem dX8_isNode_2 : decode cX8_isNode 2 = .ok (.invokevirtual 55, 3) := by decide +kernel
theorem dX8_isNode_5 : decode cX8_isNode 5 = .ok (.ifCond .eq 22, 3) := by decide +kernel
theorem dX8_isNode_8 : decode cX8_isNode 8 = .ok (.iload_n 2, 1) := by decide +kernel
theorem dX8_isNode_9 : decode cX8_isNode 9 = .ok (.iconst 0, 1) := by decide +kernel
theorem dX8_isNode_10 : decode cX8_isNode 10 = .ok (.aload_n 0, 1) := by decide +kernel
theorem dX8_isNode_11 : decode cX8_isNode 11 = .ok (.iload_n 1, 1) := by decide +kernel
theorem dX8_isNode_12 : decode cX8_isNode 12 = .ok (.invokevirtual 59, 3) := by decide +kernel
theorem dX8_isNode_15 : decode cX8_isNode 15 = .ok (.iconst 1, 1) := by decide +kernel
theorem dX8_isNode_16 : decode cX8_isNode 16 = .ok (.isub, 1) := by decide +kernel
theorem dX8_isNode_17 : decode cX8_isNode 17 = .ok (.invokestatic 47, 3) := by decide +kernel
theorem dX8_isNode_20 : decode cX8_isNode 20 = .ok (.ifCond .eq 7, 3) := by decide +kernel
theorem dX8_isNode_23 : decode cX8_isNode 23 = .ok (.iconst 1, 1) := by decide +kernel
theorem dX8_isNode_24 : decode cX8_isNode 24 = .ok (.goto 4, 3) := by decide +kernel
theorem dX8_isNode_27 : decode cX8_isNode 27 = .ok (.iconst 0, 1) := by decide +kernel
theorem dX8_isNode_28 : decode cX8_isNode 28 = .ok (.ireturn, 1) := by decide +kernel
theorem dX8_segments_0 : decode cX8_segments 0 = .ok (.aload_n 0, 1) := by decide +kernel
theorem dX8_segments_1 : decode cX8_segments 1 = .ok (.iload_n 1, 1) := by decide +kernel
theorem dX8_segments_2 : decode cX8_segments 2 = .ok (.invokevirtual 62, 3) := by decide +kernel
theorem dX8_segments_5 : decode cX8_segments 5 = .ok (.ifCond .eq 11, 3) := by decide +kernel
theorem dX8_segments_8 : decode cX8_segments 8 = .ok (.aload_n 0, 1) := by decide +kernel
theorem dX8_segments_9 : decode cX8_segments 9 = .ok (.iload_n 1, 1) := by decide +kernel
theorem dX8_segments_10 : decode cX8_segments 10 = .ok (.invokevirtual 59, 3) := by decide +kernel
theorem dX8_segments_13 : decode cX8_segments 13 = .ok (.goto 10, 3) := by decide +kernel
theorem dX8_segments_16 : decode cX8_segments 16 = .ok (.aload_n 0, 1) := by decide +kernel
theorem dX8_segments_17 : decode cX8_segments 17 = .ok (.iload_n 1, 1) := by decide +kernel
theorem dX8_segments_18 : decode cX8_segments 18 = .ok (.invokevirtual 59, 3) := by decide +kernel
theorem dX8_segments_21 : decode cX8_segments 21 = .ok (.iconst 1, 1) := by decide +kernel
theorem dX8_segments_22 : decode cX8_segments 22 = .ok (.isub, 1) := by decide +kernel
theorem dX8_segments_23 : decode cX8_segments 23 = .ok (.ireturn, 1) := by decide +kernel
theorem dX8_isSegment_0 : decode cX8_isSegment 0 = .ok (.aload_n 0, 1) := by decide +kernel
theorem dX8_isSegment_1 : decode cX8_isSegment 1 = .ok (.iload_n 1, 1) := by decide +kernel
theorem dX8_isSegment_2 : decode cX8_isSegment 2 = .ok (.invokevirtual 55, 3) := by decide +kernel
theorem dX8_isSegment_5 : decode cX8_isSegment 5 = .ok (.ifCond .eq 22, 3) := by decide +kernel
theorem dX8_isSegment_8 : decode cX8_isSegment 8 = .ok (.iload_n 2, 1) := by decide +kernel
theorem dX8_isSegment_9 : decode cX8_isSegment 9 = .ok (.iconst 0, 1) := by decide +kernel
theorem dX8_isSegment_10 : decode cX8_isSegment 10 = .ok (.aload_n 0, 1) := by decide +kernel
theorem dX8_isSegment_11 : decode cX8_isSegment 11 = .ok (.iload_n 1, 1) := by decide +kernel
theorem dX8_isSegment_12 : decode cX8_isSegment 12 = .ok (.invokevirtual 65, 3) := by decide +kernel
theorem dX8_isSegment_15 : decode cX8_isSegment 15 = .ok (.iconst 1, 1) := by decide +kernel
theorem dX8_isSegment_16 : decode cX8_isSegment 16 = .ok (.isub, 1) := by decide +kernel
theorem dX8_isSegment_17 : decode cX8_isSegment 17 = .ok (.invokestatic 47, 3) := by decide +kernel
theorem dX8_isSegment_20 : decode cX8_isSegment 20 = .ok (.ifCond .eq 7, 3) := by decide +kernel
theorem dX8_isSegment_23 : decode cX8_isSegment 23 = .ok (.iconst 1, 1) := by decide +kernel
theorem dX8_isSegment_24 : decode cX8_isSegment 24 = .ok (.goto 4, 3) := by decide +kernel
theorem dX8_isSegment_27 : decode cX8_isSegment 27 = .ok (.iconst 0, 1) := by decide +kernel
theorem dX8_isSegment_28 : decode cX8_isSegment 28 = .ok (.ireturn, 1) := by decide +kernel
theorem dX8_copies_0 : decode cX8_copies 0 = .ok (.iconst 0, 1) := by decide +kernel
theorem dX8_copies_1 : decode cX8_copies 1 = .ok (.istore 5, 2) := by decide +kernel
theorem dX8_copies_3 : decode cX8_copies 3 = .ok (.iload 5, 2) := by decide +kernel
theorem dX8_copies_5 : decode cX8_copies 5 = .ok (.sipush 589, 3) := by decide +kernel
theorem dX8_copies_8 : decode cX8_copies 8 = .ok (.if_icmp .ge 22, 3) := by decide +kernel
theorem dX8_copies_11 : decode cX8_copies 11 = .ok (.aload_n 3, 1) := by decide +kernel
theorem dX8_copies_12 : decode cX8_copies 12 = .ok (.iload 4, 2) := by decide +kernel
theorem dX8_copies_14 : decode cX8_copies 14 = .ok (.iload 5, 2) := by decide +kernel
theorem dX8_copies_16 : decode cX8_copies 16 = .ok (.iadd, 1) := by decide +kernel
theorem dX8_copies_17 : decode cX8_copies 17 = .ok (.aload_n 1, 1) := by decide +kernel
theorem dX8_copies_18 : decode cX8_copies 18 = .ok (.iload_n 2, 1) := by decide +kernel
theorem dX8_copies_19 : decode cX8_copies 19 = .ok (.iload 5, 2) := by decide +kernel
theorem dX8_copies_21 : decode cX8_copies 21 = .ok (.iadd, 1) := by decide +kernel
theorem dX8_copies_22 : decode cX8_copies 22 = .ok (.iaload, 1) := by decide +kernel
theorem dX8_copies_23 : decode cX8_copies 23 = .ok (.iastore, 1) := by decide +kernel
theorem dX8_copies_24 : decode cX8_copies 24 = .ok (.iinc 5 1, 3) := by decide +kernel
theorem dX8_copies_27 : decode cX8_copies 27 = .ok (.goto (-24), 3) := by decide +kernel
theorem dX8_copies_30 : decode cX8_copies 30 = .ok (.return_, 1) := by decide +kernel
theorem dX8_begins_0 : decode cX8_begins 0 = .ok (.aload_n 0, 1) := by decide +kernel
theorem dX8_begins_1 : decode cX8_begins 1 = .ok (.aload_n 0, 1) := by decide +kernel
theorem dX8_begins_2 : decode cX8_begins 2 = .ok (.getfield 7, 3) := by decide +kernel
theorem dX8_begins_5 : decode cX8_begins 5 = .ok (.iconst 0, 1) := by decide +kernel
theorem dX8_begins_6 : decode cX8_begins 6 = .ok (.aload_n 0, 1) := by decide +kernel
theorem dX8_begins_7 : decode cX8_begins 7 = .ok (.getfield 13, 3) := by decide +kernel
theorem dX8_begins_10 : decode cX8_begins 10 = .ok (.iconst 0, 1) := by decide +kernel
theorem dX8_begins_11 : decode cX8_begins 11 = .ok (.invokevirtual 68, 3) := by decide +kernel
theorem dX8_begins_14 : decode cX8_begins 14 = .ok (.return_, 1) := by decide +kernel
theorem dX8_pushes_0 : decode cX8_pushes 0 = .ok (.aload_n 0, 1) := by decide +kernel
theorem dX8_pushes_1 : decode cX8_pushes 1 = .ok (.getfield 72, 3) := by decide +kernel
theorem dX8_pushes_4 : decode cX8_pushes 4 = .ok (.bipush 10, 2) := by decide +kernel
theorem dX8_pushes_6 : decode cX8_pushes 6 = .ok (.if_icmp .ne 40, 3) := by decide +kernel
theorem dX8_pushes_9 : decode cX8_pushes 9 = .ok (.iconst 0, 1) := by decide +kernel
theorem dX8_pushes_10 : decode cX8_pushes 10 = .ok (.istore_n 2, 1) := by decide +kernel
theorem dX8_pushes_11 : decode cX8_pushes 11 = .ok (.iload_n 2, 1) := by decide +kernel
theorem dX8_pushes_12 : decode cX8_pushes 12 = .ok (.sipush 5301, 3) := by decide +kernel
theorem dX8_pushes_15 : decode cX8_pushes 15 = .ok (.if_icmp .ge 25, 3) := by decide +kernel
theorem dX8_pushes_18 : decode cX8_pushes 18 = .ok (.aload_n 0, 1) := by decide +kernel
theorem dX8_pushes_19 : decode cX8_pushes 19 = .ok (.getfield 16, 3) := by decide +kernel
theorem dX8_pushes_22 : decode cX8_pushes 22 = .ok (.iload_n 2, 1) := by decide +kernel
theorem dX8_pushes_23 : decode cX8_pushes 23 = .ok (.aload_n 0, 1) := by decide +kernel
theorem dX8_pushes_24 : decode cX8_pushes 24 = .ok (.getfield 16, 3) := by decide +kernel
theorem dX8_pushes_27 : decode cX8_pushes 27 = .ok (.iload_n 2, 1) := by decide +kernel
theorem dX8_pushes_28 : decode cX8_pushes 28 = .ok (.sipush 589, 3) := by decide +kernel
theorem dX8_pushes_31 : decode cX8_pushes 31 = .ok (.iadd, 1) := by decide +kernel
theorem dX8_pushes_32 : decode cX8_pushes 32 = .ok (.iaload, 1) := by decide +kernel
theorem dX8_pushes_33 : decode cX8_pushes 33 = .ok (.iastore, 1) := by decide +kernel
theorem dX8_pushes_34 : decode cX8_pushes 34 = .ok (.iinc 2 1, 3) := by decide +kernel
theorem dX8_pushes_37 : decode cX8_pushes 37 = .ok (.goto (-26), 3) := by decide +kernel
theorem dX8_pushes_40 : decode cX8_pushes 40 = .ok (.aload_n 0, 1) := by decide +kernel
theorem dX8_pushes_41 : decode cX8_pushes 41 = .ok (.bipush 9, 2) := by decide +kernel
theorem dX8_pushes_43 : decode cX8_pushes 43 = .ok (.putfield 72, 3) := by decide +kernel
theorem dX8_pushes_46 : decode cX8_pushes 46 = .ok (.aload_n 0, 1) := by decide +kernel
theorem dX8_pushes_47 : decode cX8_pushes 47 = .ok (.aload_n 1, 1) := by decide +kernel
theorem dX8_pushes_48 : decode cX8_pushes 48 = .ok (.iconst 0, 1) := by decide +kernel
theorem dX8_pushes_49 : decode cX8_pushes 49 = .ok (.aload_n 0, 1) := by decide +kernel
theorem dX8_pushes_50 : decode cX8_pushes 50 = .ok (.getfield 16, 3) := by decide +kernel
theorem dX8_pushes_53 : decode cX8_pushes 53 = .ok (.sipush 589, 3) := by decide +kernel
theorem dX8_pushes_56 : decode cX8_pushes 56 = .ok (.aload_n 0, 1) := by decide +kernel
theorem dX8_pushes_57 : decode cX8_pushes 57 = .ok (.getfield 72, 3) := by decide +kernel
theorem dX8_pushes_60 : decode cX8_pushes 60 = .ok (.imul, 1) := by decide +kernel
theorem dX8_pushes_61 : decode cX8_pushes 61 = .ok (.invokevirtual 68, 3) := by decide +kernel
theorem dX8_pushes_64 : decode cX8_pushes 64 = .ok (.aload_n 0, 1) := by decide +kernel
theorem dX8_pushes_65 : decode cX8_pushes 65 = .ok (.dup, 1) := by decide +kernel
theorem dX8_pushes_66 : decode cX8_pushes 66 = .ok (.getfield 72, 3) := by decide +kernel
theorem dX8_pushes_69 : decode cX8_pushes 69 = .ok (.iconst 1, 1) := by decide +kernel
theorem dX8_pushes_70 : decode cX8_pushes 70 = .ok (.iadd, 1) := by decide +kernel
theorem dX8_pushes_71 : decode cX8_pushes 71 = .ok (.putfield 72, 3) := by decide +kernel
theorem dX8_pushes_74 : decode cX8_pushes 74 = .ok (.return_, 1) := by decide +kernel
theorem dX8_made_0 : decode cX8_made 0 = .ok (.aload_n 0, 1) := by decide +kernel
theorem dX8_made_1 : decode cX8_made 1 = .ok (.aload_n 0, 1) := by decide +kernel
theorem dX8_made_2 : decode cX8_made 2 = .ok (.getfield 13, 3) := by decide +kernel
theorem dX8_made_5 : decode cX8_made 5 = .ok (.invokevirtual 76, 3) := by decide +kernel
theorem dX8_made_8 : decode cX8_made 8 = .ok (.aload_n 0, 1) := by decide +kernel
theorem dX8_made_9 : decode cX8_made 9 = .ok (.iconst 0, 1) := by decide +kernel
theorem dX8_made_10 : decode cX8_made 10 = .ok (.putfield 80, 3) := by decide +kernel
theorem dX8_made_13 : decode cX8_made 13 = .ok (.iload_n 1, 1) := by decide +kernel
theorem dX8_made_14 : decode cX8_made 14 = .ok (.ireturn, 1) := by decide +kernel
theorem dX8_failed_0 : decode cX8_failed 0 = .ok (.aload_n 0, 1) := by decide +kernel
theorem dX8_failed_1 : decode cX8_failed 1 = .ok (.aload_n 0, 1) := by decide +kernel
theorem dX8_failed_2 : decode cX8_failed 2 = .ok (.getfield 13, 3) := by decide +kernel
theorem dX8_failed_5 : decode cX8_failed 5 = .ok (.iconst 0, 1) := by decide +kernel
theorem dX8_failed_6 : decode cX8_failed 6 = .ok (.aload_n 0, 1) := by decide +kernel
theorem dX8_failed_7 : decode cX8_failed 7 = .ok (.getfield 7, 3) := by decide +kernel
theorem dX8_failed_10 : decode cX8_failed 10 = .ok (.iconst 0, 1) := by decide +kernel
theorem dX8_failed_11 : decode cX8_failed 11 = .ok (.invokevirtual 68, 3) := by decide +kernel
theorem dX8_failed_14 : decode cX8_failed 14 = .ok (.iload_n 1, 1) := by decide +kernel
theorem dX8_failed_15 : decode cX8_failed 15 = .ok (.ireturn, 1) := by decide +kernel
theorem dX8_puts_0 : decode cX8_puts 0 = .ok (.lload_n 2, 1) := by decide +kernel
theorem dX8_puts_1 : decode cX8_puts 1 = .ok (.lload 4, 2) := by decide +kernel
theorem dX8_puts_3 : decode cX8_puts 3 = .ok (.lrem, 1) := by decide +kernel
theorem dX8_puts_4 : decode cX8_puts 4 = .ok (.lconst 0, 1) := by decide +kernel
theorem dX8_puts_5 : decode cX8_puts 5 = .ok (.lcmp, 1) := by decide +kernel
theorem dX8_puts_6 : decode cX8_puts 6 = .ok (.ifCond .eq 10, 3) := by decide +kernel
theorem dX8_puts_9 : decode cX8_puts 9 = .ok (.aload_n 0, 1) := by decide +kernel
theorem dX8_puts_10 : decode cX8_puts 10 = .ok (.ldc 83, 2) := by decide +kernel
theorem dX8_puts_12 : decode cX8_puts 12 = .ok (.putfield 84, 3) := by decide +kernel
theorem dX8_puts_15 : decode cX8_puts 15 = .ok (.return_, 1) := by decide +kernel
theorem dX8_puts_16 : decode cX8_puts 16 = .ok (.lload_n 2, 1) := by decide +kernel
theorem dX8_puts_17 : decode cX8_puts 17 = .ok (.lload 4, 2) := by decide +kernel
theorem dX8_puts_19 : decode cX8_puts 19 = .ok (.ldiv, 1) := by decide +kernel
theorem dX8_puts_20 : decode cX8_puts 20 = .ok (.lstore 6, 2) := by decide +kernel
theorem dX8_puts_22 : decode cX8_puts 22 = .ok (.lload 6, 2) := by decide +kernel
theorem dX8_puts_24 : decode cX8_puts 24 = .ok (.ldc2_w 87, 3) := by decide +kernel
theorem dX8_puts_27 : decode cX8_puts 27 = .ok (.lcmp, 1) := by decide +kernel
theorem dX8_puts_28 : decode cX8_puts 28 = .ok (.ifCond .gt 12, 3) := by decide +kernel
theorem dX8_puts_31 : decode cX8_puts 31 = .ok (.lload 6, 2) := by decide +kernel
theorem dX8_puts_33 : decode cX8_puts 33 = .ok (.ldc2_w 89, 3) := by decide +kernel
theorem dX8_puts_36 : decode cX8_puts 36 = .ok (.lcmp, 1) := by decide +kernel
theorem dX8_puts_37 : decode cX8_puts 37 = .ok (.ifCond .ge 16, 3) := by decide +kernel
theorem dX8_puts_40 : decode cX8_puts 40 = .ok (.aload_n 0, 1) := by decide +kernel
theorem dX8_puts_41 : decode cX8_puts 41 = .ok (.getfield 84, 3) := by decide +kernel
theorem dX8_puts_44 : decode cX8_puts 44 = .ok (.ifCond .ne 9, 3) := by decide +kernel
theorem dX8_puts_47 : decode cX8_puts 47 = .ok (.aload_n 0, 1) := by decide +kernel
theorem dX8_puts_48 : decode cX8_puts 48 = .ok (.ldc 91, 2) := by decide +kernel
theorem dX8_puts_50 : decode cX8_puts 50 = .ok (.putfield 84, 3) := by decide +kernel
theorem dX8_puts_53 : decode cX8_puts 53 = .ok (.aload_n 0, 1) := by decide +kernel
theorem dX8_puts_54 : decode cX8_puts 54 = .ok (.getfield 7, 3) := by decide +kernel
theorem dX8_puts_57 : decode cX8_puts 57 = .ok (.iload_n 1, 1) := by decide +kernel
theorem dX8_puts_58 : decode cX8_puts 58 = .ok (.lload 6, 2) := by decide +kernel
theorem dX8_puts_60 : decode cX8_puts 60 = .ok (.l2i, 1) := by decide +kernel
theorem dX8_puts_61 : decode cX8_puts 61 = .ok (.iastore, 1) := by decide +kernel
theorem dX8_puts_62 : decode cX8_puts 62 = .ok (.return_, 1) := by decide +kernel
theorem dX8_clears_0 : decode cX8_clears 0 = .ok (.iconst 0, 1) := by decide +kernel
theorem dX8_clears_1 : decode cX8_clears 1 = .ok (.istore 5, 2) := by decide +kernel
theorem dX8_clears_3 : decode cX8_clears 3 = .ok (.iload 5, 2) := by decide +kernel
theorem dX8_clears_5 : decode cX8_clears 5 = .ok (.bipush 8, 2) := by decide +kernel
theorem dX8_clears_7 : decode cX8_clears 7 = .ok (.if_icmp .ge 22, 3) := by decide +kernel
theorem dX8_clears_10 : decode cX8_clears 10 = .ok (.aload_n 0, 1) := by decide +kernel
theorem dX8_clears_11 : decode cX8_clears 11 = .ok (.getfield 7, 3) := by decide +kernel
theorem dX8_clears_14 : decode cX8_clears 14 = .ok (.iload_n 1, 1) := by decide +kernel
theorem dX8_clears_15 : decode cX8_clears 15 = .ok (.iload_n 2, 1) := by decide +kernel
theorem dX8_clears_16 : decode cX8_clears 16 = .ok (.iload 5, 2) := by decide +kernel
theorem dX8_clears_18 : decode cX8_clears 18 = .ok (.invokestatic 92, 3) := by decide +kernel
theorem dX8_clears_21 : decode cX8_clears 21 = .ok (.iconst 0, 1) := by decide +kernel
theorem dX8_clears_22 : decode cX8_clears 22 = .ok (.iastore, 1) := by decide +kernel
theorem dX8_clears_23 : decode cX8_clears 23 = .ok (.iinc 5 1, 3) := by decide +kernel
theorem dX8_clears_26 : decode cX8_clears 26 = .ok (.goto (-23), 3) := by decide +kernel
theorem dX8_clears_29 : decode cX8_clears 29 = .ok (.aload_n 0, 1) := by decide +kernel
theorem dX8_clears_30 : decode cX8_clears 30 = .ok (.getfield 7, 3) := by decide +kernel
theorem dX8_clears_33 : decode cX8_clears 33 = .ok (.iload_n 1, 1) := by decide +kernel
theorem dX8_clears_34 : decode cX8_clears 34 = .ok (.iload_n 2, 1) := by decide +kernel
theorem dX8_clears_35 : decode cX8_clears 35 = .ok (.iconst 0, 1) := by decide +kernel
theorem dX8_clears_36 : decode cX8_clears 36 = .ok (.invokestatic 92, 3) := by decide +kernel
theorem dX8_clears_39 : decode cX8_clears 39 = .ok (.iload_n 3, 1) := by decide +kernel
theorem dX8_clears_40 : decode cX8_clears 40 = .ok (.iastore, 1) := by decide +kernel
theorem dX8_clears_41 : decode cX8_clears 41 = .ok (.aload_n 0, 1) := by decide +kernel
theorem dX8_clears_42 : decode cX8_clears 42 = .ok (.getfield 7, 3) := by decide +kernel
theorem dX8_clears_45 : decode cX8_clears 45 = .ok (.iload_n 1, 1) := by decide +kernel
theorem dX8_clears_46 : decode cX8_clears 46 = .ok (.iload_n 2, 1) := by decide +kernel
theorem dX8_clears_47 : decode cX8_clears 47 = .ok (.iconst 1, 1) := by decide +kernel
theorem dX8_clears_48 : decode cX8_clears 48 = .ok (.invokestatic 92, 3) := by decide +kernel
theorem dX8_clears_51 : decode cX8_clears 51 = .ok (.iload 4, 2) := by decide +kernel
theorem dX8_clears_53 : decode cX8_clears 53 = .ok (.iastore, 1) := by decide +kernel
theorem dX8_clears_54 : decode cX8_clears 54 = .ok (.return_, 1) := by decide +kernel
theorem dX8_copiesNode_0 : decode cX8_copiesNode 0 = .ok (.iconst 0, 1) := by decide +kernel
theorem dX8_copiesNode_1 : decode cX8_copiesNode 1 = .ok (.istore 5, 2) := by decide +kernel
theorem dX8_copiesNode_3 : decode cX8_copiesNode 3 = .ok (.iload 5, 2) := by decide +kernel
theorem dX8_copiesNode_5 : decode cX8_copiesNode 5 = .ok (.bipush 8, 2) := by decide +kernel
theorem dX8_copiesNode_7 : decode cX8_copiesNode 7 = .ok (.if_icmp .ge 34, 3) := by decide +kernel
theorem dX8_copiesNode_10 : decode cX8_copiesNode 10 = .ok (.aload_n 0, 1) := by decide +kernel
theorem dX8_copiesNode_11 : decode cX8_copiesNode 11 = .ok (.getfield 7, 3) := by decide +kernel
theorem dX8_copiesNode_14 : decode cX8_copiesNode 14 = .ok (.iload_n 3, 1) := by decide +kernel
theorem dX8_copiesNode_15 : decode cX8_copiesNode 15 = .ok (.iload 4, 2) := by decide +kernel
theorem dX8_copiesNode_17 : decode cX8_copiesNode 17 = .ok (.iload 5, 2) := by decide +kernel
theorem dX8_copiesNode_19 : decode cX8_copiesNode 19 = .ok (.invokestatic 92, 3) := by decide +kernel
theorem dX8_copiesNode_22 : decode cX8_copiesNode 22 = .ok (.aload_n 0, 1) := by decide +kernel
theorem dX8_copiesNode_23 : decode cX8_copiesNode 23 = .ok (.getfield 7, 3) := by decide +kernel
theorem dX8_copiesNode_26 : decode cX8_copiesNode 26 = .ok (.iload_n 1, 1) := by decide +kernel
theorem dX8_copiesNode_27 : decode cX8_copiesNode 27 = .ok (.iload_n 2, 1) := by decide +kernel
theorem dX8_copiesNode_28 : decode cX8_copiesNode 28 = .ok (.iload 5, 2) := by decide +kernel
theorem dX8_copiesNode_30 : decode cX8_copiesNode 30 = .ok (.invokestatic 92, 3) := by decide +kernel
theorem dX8_copiesNode_33 : decode cX8_copiesNode 33 = .ok (.iaload, 1) := by decide +kernel
theorem dX8_copiesNode_34 : decode cX8_copiesNode 34 = .ok (.iastore, 1) := by decide +kernel
theorem dX8_copiesNode_35 : decode cX8_copiesNode 35 = .ok (.iinc 5 1, 3) := by decide +kernel
theorem dX8_copiesNode_38 : decode cX8_copiesNode 38 = .ok (.goto (-35), 3) := by decide +kernel
theorem dX8_copiesNode_41 : decode cX8_copiesNode 41 = .ok (.return_, 1) := by decide +kernel
theorem dX8_isSmooth_0 : decode cX8_isSmooth 0 = .ok (.aload_n 0, 1) := by decide +kernel
theorem dX8_isSmooth_1 : decode cX8_isSmooth 1 = .ok (.getfield 7, 3) := by decide +kernel
theorem dX8_isSmooth_4 : decode cX8_isSmooth 4 = .ok (.iload_n 1, 1) := by decide +kernel
theorem dX8_isSmooth_5 : decode cX8_isSmooth 5 = .ok (.iload_n 2, 1) := by decide +kernel
theorem dX8_isSmooth_6 : decode cX8_isSmooth 6 = .ok (.bipush 6, 2) := by decide +kernel
theorem dX8_isSmooth_8 : decode cX8_isSmooth 8 = .ok (.invokestatic 92, 3) := by decide +kernel
theorem dX8_isSmooth_11 : decode cX8_isSmooth 11 = .ok (.iaload, 1) := by decide +kernel
theorem dX8_isSmooth_12 : decode cX8_isSmooth 12 = .ok (.ifCond .le 7, 3) := by decide +kernel
theorem dX8_isSmooth_15 : decode cX8_isSmooth 15 = .ok (.iconst 1, 1) := by decide +kernel
theorem dX8_isSmooth_16 : decode cX8_isSmooth 16 = .ok (.goto 4, 3) := by decide +kernel
theorem dX8_isSmooth_19 : decode cX8_isSmooth 19 = .ok (.iconst 0, 1) := by decide +kernel
theorem dX8_isSmooth_20 : decode cX8_isSmooth 20 = .ok (.ireturn, 1) := by decide +kernel
theorem dX8_sets_0 : decode cX8_sets 0 = .ok (.iload_n 3, 1) := by decide +kernel
theorem dX8_sets_1 : decode cX8_sets 1 = .ok (.iload 4, 2) := by decide +kernel
theorem dX8_sets_3 : decode cX8_sets 3 = .ok (.invokestatic 96, 3) := by decide +kernel
theorem dX8_sets_6 : decode cX8_sets 6 = .ok (.istore 5, 2) := by decide +kernel
theorem dX8_sets_8 : decode cX8_sets 8 = .ok (.iload_n 3, 1) := by decide +kernel
theorem dX8_sets_9 : decode cX8_sets 9 = .ok (.iload 5, 2) := by decide +kernel
theorem dX8_sets_11 : decode cX8_sets 11 = .ok (.idiv, 1) := by decide +kernel
theorem dX8_sets_12 : decode cX8_sets 12 = .ok (.sipush 999, 3) := by decide +kernel
theorem dX8_sets_15 : decode cX8_sets 15 = .ok (.if_icmp .gt 18, 3) := by decide +kernel
theorem dX8_sets_18 : decode cX8_sets 18 = .ok (.iload 4, 2) := by decide +kernel
theorem dX8_sets_20 : decode cX8_sets 20 = .ok (.iload 5, 2) := by decide +kernel
theorem dX8_sets_22 : decode cX8_sets 22 = .ok (.idiv, 1) := by decide +kernel
theorem dX8_sets_23 : decode cX8_sets 23 = .ok (.sipush 999, 3) := by decide +kernel
theorem dX8_sets_26 : decode cX8_sets 26 = .ok (.if_icmp .gt 7, 3) := by decide +kernel
theorem dX8_sets_29 : decode cX8_sets 29 = .ok (.iconst 1, 1) := by decide +kernel
theorem dX8_sets_30 : decode cX8_sets 30 = .ok (.goto 4, 3) := by decide +kernel
theorem dX8_sets_33 : decode cX8_sets 33 = .ok (.iconst 0, 1) := by decide +kernel
theorem dX8_sets_34 : decode cX8_sets 34 = .ok (.istore 6, 2) := by decide +kernel
theorem dX8_sets_36 : decode cX8_sets 36 = .ok (.aload_n 0, 1) := by decide +kernel
theorem dX8_sets_37 : decode cX8_sets 37 = .ok (.getfield 7, 3) := by decide +kernel
theorem dX8_sets_40 : decode cX8_sets 40 = .ok (.iload_n 1, 1) := by decide +kernel
theorem dX8_sets_41 : decode cX8_sets 41 = .ok (.iload_n 2, 1) := by decide +kernel
theorem dX8_sets_42 : decode cX8_sets 42 = .ok (.bipush 6, 2) := by decide +kernel
theorem dX8_sets_44 : decode cX8_sets 44 = .ok (.invokestatic 92, 3) := by decide +kernel
theorem dX8_sets_47 : decode cX8_sets 47 = .ok (.iload 6, 2) := by decide +kernel
theorem dX8_sets_49 : decode cX8_sets 49 = .ok (.ifCond .eq 10, 3) := by decide +kernel
theorem dX8_sets_52 : decode cX8_sets 52 = .ok (.iload_n 3, 1) := by decide +kernel
theorem dX8_sets_53 : decode cX8_sets 53 = .ok (.iload 5, 2) := by decide +kernel
theorem dX8_sets_55 : decode cX8_sets 55 = .ok (.idiv, 1) := by decide +kernel
theorem dX8_sets_56 : decode cX8_sets 56 = .ok (.goto 4, 3) := by decide +kernel
theorem dX8_sets_59 : decode cX8_sets 59 = .ok (.iconst 0, 1) := by decide +kernel
theorem dX8_sets_60 : decode cX8_sets 60 = .ok (.iastore, 1) := by decide +kernel
theorem dX8_sets_61 : decode cX8_sets 61 = .ok (.aload_n 0, 1) := by decide +kernel
theorem dX8_sets_62 : decode cX8_sets 62 = .ok (.getfield 7, 3) := by decide +kernel
theorem dX8_sets_65 : decode cX8_sets 65 = .ok (.iload_n 1, 1) := by decide +kernel
theorem dX8_sets_66 : decode cX8_sets 66 = .ok (.iload_n 2, 1) := by decide +kernel
theorem dX8_sets_67 : decode cX8_sets 67 = .ok (.bipush 7, 2) := by decide +kernel
theorem dX8_sets_69 : decode cX8_sets 69 = .ok (.invokestatic 92, 3) := by decide +kernel
theorem dX8_sets_72 : decode cX8_sets 72 = .ok (.iload 6, 2) := by decide +kernel
theorem dX8_sets_74 : decode cX8_sets 74 = .ok (.ifCond .eq 11, 3) := by decide +kernel
theorem dX8_sets_77 : decode cX8_sets 77 = .ok (.iload 4, 2) := by decide +kernel
theorem dX8_sets_79 : decode cX8_sets 79 = .ok (.iload 5, 2) := by decide +kernel
theorem dX8_sets_81 : decode cX8_sets 81 = .ok (.idiv, 1) := by decide +kernel
theorem dX8_sets_82 : decode cX8_sets 82 = .ok (.goto 4, 3) := by decide +kernel
theorem dX8_sets_85 : decode cX8_sets 85 = .ok (.iconst 0, 1) := by decide +kernel
theorem dX8_sets_86 : decode cX8_sets 86 = .ok (.iastore, 1) := by decide +kernel
theorem dX8_sets_87 : decode cX8_sets 87 = .ok (.return_, 1) := by decide +kernel
theorem dX8_follows_0 : decode cX8_follows 0 = .ok (.iload_n 3, 1) := by decide +kernel
theorem dX8_follows_1 : decode cX8_follows 1 = .ok (.ifCond .eq 7, 3) := by decide +kernel
theorem dX8_follows_4 : decode cX8_follows 4 = .ok (.iconst 4, 1) := by decide +kernel
theorem dX8_follows_5 : decode cX8_follows 5 = .ok (.goto 4, 3) := by decide +kernel
theorem dX8_follows_8 : decode cX8_follows 8 = .ok (.iconst 2, 1) := by decide +kernel
theorem dX8_follows_9 : decode cX8_follows 9 = .ok (.istore 4, 2) := by decide +kernel
theorem dX8_follows_11 : decode cX8_follows 11 = .ok (.iload_n 3, 1) := by decide +kernel
theorem dX8_follows_12 : decode cX8_follows 12 = .ok (.ifCond .eq 7, 3) := by decide +kernel
theorem dX8_follows_15 : decode cX8_follows 15 = .ok (.iconst 2, 1) := by decide +kernel
theorem dX8_follows_16 : decode cX8_follows 16 = .ok (.goto 4, 3) := by decide +kernel
theorem dX8_follows_19 : decode cX8_follows 19 = .ok (.iconst 4, 1) := by decide +kernel
theorem dX8_follows_20 : decode cX8_follows 20 = .ok (.istore 5, 2) := by decide +kernel
theorem dX8_follows_22 : decode cX8_follows 22 = .ok (.aload_n 0, 1) := by decide +kernel
theorem dX8_follows_23 : decode cX8_follows 23 = .ok (.getfield 7, 3) := by decide +kernel
theorem dX8_follows_26 : decode cX8_follows 26 = .ok (.iload_n 1, 1) := by decide +kernel
theorem dX8_follows_27 : decode cX8_follows 27 = .ok (.iload_n 2, 1) := by decide +kernel
theorem dX8_follows_28 : decode cX8_follows 28 = .ok (.iload_n 3, 1) := by decide +kernel
theorem dX8_follows_29 : decode cX8_follows 29 = .ok (.ifCond .eq 8, 3) := by decide +kernel
theorem dX8_follows_32 : decode cX8_follows 32 = .ok (.bipush 6, 2) := by decide +kernel
theorem dX8_follows_34 : decode cX8_follows 34 = .ok (.goto 5, 3) := by decide +kernel
theorem dX8_follows_37 : decode cX8_follows 37 = .ok (.bipush 7, 2) := by decide +kernel
theorem dX8_follows_39 : decode cX8_follows 39 = .ok (.invokestatic 92, 3) := by decide +kernel
theorem dX8_follows_42 : decode cX8_follows 42 = .ok (.iaload, 1) := by decide +kernel
theorem dX8_follows_43 : decode cX8_follows 43 = .ok (.istore 6, 2) := by decide +kernel
theorem dX8_follows_45 : decode cX8_follows 45 = .ok (.aload_n 0, 1) := by decide +kernel
theorem dX8_follows_46 : decode cX8_follows 46 = .ok (.getfield 7, 3) := by decide +kernel
theorem dX8_follows_49 : decode cX8_follows 49 = .ok (.iload_n 1, 1) := by decide +kernel
theorem dX8_follows_50 : decode cX8_follows 50 = .ok (.iload_n 2, 1) := by decide +kernel
theorem dX8_follows_51 : decode cX8_follows 51 = .ok (.iload_n 3, 1) := by decide +kernel
theorem dX8_follows_52 : decode cX8_follows 52 = .ok (.ifCond .eq 8, 3) := by decide +kernel
theorem dX8_follows_55 : decode cX8_follows 55 = .ok (.bipush 7, 2) := by decide +kernel
theorem dX8_follows_57 : decode cX8_follows 57 = .ok (.goto 5, 3) := by decide +kernel
theorem dX8_follows_60 : decode cX8_follows 60 = .ok (.bipush 6, 2) := by decide +kernel
theorem dX8_follows_62 : decode cX8_follows 62 = .ok (.invokestatic 92, 3) := by decide +kernel
theorem dX8_follows_65 : decode cX8_follows 65 = .ok (.iaload, 1) := by decide +kernel
theorem dX8_follows_66 : decode cX8_follows 66 = .ok (.istore 7, 2) := by decide +kernel
theorem dX8_follows_68 : decode cX8_follows 68 = .ok (.iconst 0, 1) := by decide +kernel
theorem dX8_follows_69 : decode cX8_follows 69 = .ok (.istore 8, 2) := by decide +kernel
theorem dX8_follows_71 : decode cX8_follows 71 = .ok (.iload 8, 2) := by decide +kernel
theorem dX8_follows_73 : decode cX8_follows 73 = .ok (.iconst 2, 1) := by decide +kernel
theorem dX8_follows_74 : decode cX8_follows 74 = .ok (.if_icmp .ge 47, 3) := by decide +kernel
theorem dX8_follows_77 : decode cX8_follows 77 = .ok (.aload_n 0, 1) := by decide +kernel
theorem dX8_follows_78 : decode cX8_follows 78 = .ok (.iload_n 1, 1) := by decide +kernel
theorem dX8_follows_79 : decode cX8_follows 79 = .ok (.iload_n 2, 1) := by decide +kernel
theorem dX8_follows_80 : decode cX8_follows 80 = .ok (.iload 5, 2) := by decide +kernel
theorem dX8_follows_82 : decode cX8_follows 82 = .ok (.iload 8, 2) := by decide +kernel
theorem dX8_follows_84 : decode cX8_follows 84 = .ok (.iadd, 1) := by decide +kernel
theorem dX8_follows_85 : decode cX8_follows 85 = .ok (.invokestatic 92, 3) := by decide +kernel
theorem dX8_follows_88 : decode cX8_follows 88 = .ok (.iload 6, 2) := by decide +kernel
theorem dX8_follows_90 : decode cX8_follows 90 = .ok (.i2l, 1) := by decide +kernel
theorem dX8_follows_91 : decode cX8_follows 91 = .ok (.lneg, 1) := by decide +kernel
theorem dX8_follows_92 : decode cX8_follows 92 = .ok (.aload_n 0, 1) := by decide +kernel
theorem dX8_follows_93 : decode cX8_follows 93 = .ok (.getfield 7, 3) := by decide +kernel
theorem dX8_follows_96 : decode cX8_follows 96 = .ok (.iload_n 1, 1) := by decide +kernel
theorem dX8_follows_97 : decode cX8_follows 97 = .ok (.iload_n 2, 1) := by decide +kernel
theorem dX8_follows_98 : decode cX8_follows 98 = .ok (.iload 4, 2) := by decide +kernel
theorem dX8_follows_100 : decode cX8_follows 100 = .ok (.iload 8, 2) := by decide +kernel
theorem dX8_follows_102 : decode cX8_follows 102 = .ok (.iadd, 1) := by decide +kernel
theorem dX8_follows_103 : decode cX8_follows 103 = .ok (.invokestatic 92, 3) := by decide +kernel
theorem dX8_follows_106 : decode cX8_follows 106 = .ok (.iaload, 1) := by decide +kernel
theorem dX8_follows_107 : decode cX8_follows 107 = .ok (.i2l, 1) := by decide +kernel
theorem dX8_follows_108 : decode cX8_follows 108 = .ok (.lmul, 1) := by decide +kernel
theorem dX8_follows_109 : decode cX8_follows 109 = .ok (.iload 7, 2) := by decide +kernel
theorem dX8_follows_111 : decode cX8_follows 111 = .ok (.i2l, 1) := by decide +kernel
theorem dX8_follows_112 : decode cX8_follows 112 = .ok (.invokevirtual 100, 3) := by decide +kernel
theorem dX8_follows_115 : decode cX8_follows 115 = .ok (.iinc 8 1, 3) := by decide +kernel
theorem dX8_follows_118 : decode cX8_follows 118 = .ok (.goto (-47), 3) := by decide +kernel
theorem dX8_follows_121 : decode cX8_follows 121 = .ok (.return_, 1) := by decide +kernel
theorem dX8_addPath_0 : decode cX8_addPath 0 = .ok (.iload_n 1, 1) := by decide +kernel
theorem dX8_addPath_1 : decode cX8_addPath 1 = .ok (.iload_n 2, 1) := by decide +kernel
theorem dX8_addPath_2 : decode cX8_addPath 2 = .ok (.invokestatic 104, 3) := by decide +kernel
theorem dX8_addPath_5 : decode cX8_addPath 5 = .ok (.ifCond .ne 6, 3) := by decide +kernel
theorem dX8_addPath_8 : decode cX8_addPath 8 = .ok (.ldc 108, 2) := by decide +kernel
theorem dX8_addPath_10 : decode cX8_addPath 10 = .ok (.ireturn, 1) := by decide +kernel
theorem dX8_addPath_11 : decode cX8_addPath 11 = .ok (.aload_n 0, 1) := by decide +kernel
theorem dX8_addPath_12 : decode cX8_addPath 12 = .ok (.getfield 7, 3) := by decide +kernel
theorem dX8_addPath_15 : decode cX8_addPath 15 = .ok (.iconst 0, 1) := by decide +kernel
theorem dX8_addPath_16 : decode cX8_addPath 16 = .ok (.iaload, 1) := by decide +kernel
theorem dX8_addPath_17 : decode cX8_addPath 17 = .ok (.bipush 6, 2) := by decide +kernel
theorem dX8_addPath_19 : decode cX8_addPath 19 = .ok (.if_icmp .ne 6, 3) := by decide +kernel
theorem dX8_addPath_22 : decode cX8_addPath 22 = .ok (.ldc 109, 2) := by decide +kernel
theorem dX8_addPath_24 : decode cX8_addPath 24 = .ok (.ireturn, 1) := by decide +kernel
theorem dX8_addPath_25 : decode cX8_addPath 25 = .ok (.aload_n 0, 1) := by decide +kernel
theorem dX8_addPath_26 : decode cX8_addPath 26 = .ok (.invokevirtual 110, 3) := by decide +kernel
theorem dX8_addPath_29 : decode cX8_addPath 29 = .ok (.aload_n 0, 1) := by decide +kernel
theorem dX8_addPath_30 : decode cX8_addPath 30 = .ok (.getfield 7, 3) := by decide +kernel
theorem dX8_addPath_33 : decode cX8_addPath 33 = .ok (.iconst 0, 1) := by decide +kernel
theorem dX8_addPath_34 : decode cX8_addPath 34 = .ok (.iaload, 1) := by decide +kernel
theorem dX8_addPath_35 : decode cX8_addPath 35 = .ok (.istore_n 3, 1) := by decide +kernel
theorem dX8_addPath_36 : decode cX8_addPath 36 = .ok (.aload_n 0, 1) := by decide +kernel
theorem dX8_addPath_37 : decode cX8_addPath 37 = .ok (.getfield 7, 3) := by decide +kernel
theorem dX8_addPath_40 : decode cX8_addPath 40 = .ok (.iconst 0, 1) := by decide +kernel
theorem dX8_addPath_41 : decode cX8_addPath 41 = .ok (.dup2, 1) := by decide +kernel
theorem dX8_addPath_42 : decode cX8_addPath 42 = .ok (.iaload, 1) := by decide +kernel
theorem dX8_addPath_43 : decode cX8_addPath 43 = .ok (.iconst 1, 1) := by decide +kernel
theorem dX8_addPath_44 : decode cX8_addPath 44 = .ok (.iadd, 1) := by decide +kernel
theorem dX8_addPath_45 : decode cX8_addPath 45 = .ok (.iastore, 1) := by decide +kernel
theorem dX8_addPath_46 : decode cX8_addPath 46 = .ok (.aload_n 0, 1) := by decide +kernel
theorem dX8_addPath_47 : decode cX8_addPath 47 = .ok (.getfield 7, 3) := by decide +kernel
theorem dX8_addPath_50 : decode cX8_addPath 50 = .ok (.iload_n 3, 1) := by decide +kernel
theorem dX8_addPath_51 : decode cX8_addPath 51 = .ok (.invokestatic 51, 3) := by decide +kernel
theorem dX8_addPath_54 : decode cX8_addPath 54 = .ok (.iconst 1, 1) := by decide +kernel
theorem dX8_addPath_55 : decode cX8_addPath 55 = .ok (.iastore, 1) := by decide +kernel
theorem dX8_addPath_56 : decode cX8_addPath 56 = .ok (.aload_n 0, 1) := by decide +kernel
theorem dX8_addPath_57 : decode cX8_addPath 57 = .ok (.getfield 7, 3) := by decide +kernel
theorem dX8_addPath_60 : decode cX8_addPath 60 = .ok (.iload_n 3, 1) := by decide +kernel
theorem dX8_addPath_61 : decode cX8_addPath 61 = .ok (.invokestatic 51, 3) := by decide +kernel
theorem dX8_addPath_64 : decode cX8_addPath 64 = .ok (.iconst 1, 1) := by decide +kernel
theorem dX8_addPath_65 : decode cX8_addPath 65 = .ok (.iadd, 1) := by decide +kernel
theorem dX8_addPath_66 : decode cX8_addPath 66 = .ok (.iconst 0, 1) := by decide +kernel
theorem dX8_addPath_67 : decode cX8_addPath 67 = .ok (.iastore, 1) := by decide +kernel
theorem dX8_addPath_68 : decode cX8_addPath 68 = .ok (.aload_n 0, 1) := by decide +kernel
theorem dX8_addPath_69 : decode cX8_addPath 69 = .ok (.iload_n 3, 1) := by decide +kernel
theorem dX8_addPath_70 : decode cX8_addPath 70 = .ok (.iconst 0, 1) := by decide +kernel
theorem dX8_addPath_71 : decode cX8_addPath 71 = .ok (.iload_n 1, 1) := by decide +kernel
theorem dX8_addPath_72 : decode cX8_addPath 72 = .ok (.ldc 113, 2) := by decide +kernel
theorem dX8_addPath_74 : decode cX8_addPath 74 = .ok (.imul, 1) := by decide +kernel
theorem dX8_addPath_75 : decode cX8_addPath 75 = .ok (.iload_n 2, 1) := by decide +kernel
theorem dX8_addPath_76 : decode cX8_addPath 76 = .ok (.ldc 113, 2) := by decide +kernel
theorem dX8_addPath_78 : decode cX8_addPath 78 = .ok (.imul, 1) := by decide +kernel
theorem dX8_addPath_79 : decode cX8_addPath 79 = .ok (.invokevirtual 114, 3) := by decide +kernel
theorem dX8_addPath_82 : decode cX8_addPath 82 = .ok (.aload_n 0, 1) := by decide +kernel
theorem dX8_addPath_83 : decode cX8_addPath 83 = .ok (.iload_n 3, 1) := by decide +kernel
theorem dX8_addPath_84 : decode cX8_addPath 84 = .ok (.invokevirtual 118, 3) := by decide +kernel
theorem dX8_addPath_87 : decode cX8_addPath 87 = .ok (.ireturn, 1) := by decide +kernel
theorem dX8_extend_0 : decode cX8_extend 0 = .ok (.aload_n 0, 1) := by decide +kernel
theorem dX8_extend_1 : decode cX8_extend 1 = .ok (.iload_n 1, 1) := by decide +kernel
theorem dX8_extend_2 : decode cX8_extend 2 = .ok (.invokevirtual 55, 3) := by decide +kernel
theorem dX8_extend_5 : decode cX8_extend 5 = .ok (.ifCond .ne 6, 3) := by decide +kernel
theorem dX8_extend_8 : decode cX8_extend 8 = .ok (.ldc 121, 2) := by decide +kernel
theorem dX8_extend_10 : decode cX8_extend 10 = .ok (.ireturn, 1) := by decide +kernel
theorem dX8_extend_11 : decode cX8_extend 11 = .ok (.iload_n 2, 1) := by decide +kernel
theorem dX8_extend_12 : decode cX8_extend 12 = .ok (.iload_n 3, 1) := by decide +kernel
theorem dX8_extend_13 : decode cX8_extend 13 = .ok (.invokestatic 104, 3) := by decide +kernel
theorem dX8_extend_16 : decode cX8_extend 16 = .ok (.ifCond .ne 6, 3) := by decide +kernel
theorem dX8_extend_19 : decode cX8_extend 19 = .ok (.ldc 108, 2) := by decide +kernel
theorem dX8_extend_21 : decode cX8_extend 21 = .ok (.ireturn, 1) := by decide +kernel
theorem dX8_extend_22 : decode cX8_extend 22 = .ok (.aload_n 0, 1) := by decide +kernel
theorem dX8_extend_23 : decode cX8_extend 23 = .ok (.iload_n 1, 1) := by decide +kernel
theorem dX8_extend_24 : decode cX8_extend 24 = .ok (.invokevirtual 62, 3) := by decide +kernel
theorem dX8_extend_27 : decode cX8_extend 27 = .ok (.ifCond .eq 6, 3) := by decide +kernel
theorem dX8_extend_30 : decode cX8_extend 30 = .ok (.ldc 122, 2) := by decide +kernel
theorem dX8_extend_32 : decode cX8_extend 32 = .ok (.ireturn, 1) := by decide +kernel
theorem dX8_extend_33 : decode cX8_extend 33 = .ok (.aload_n 0, 1) := by decide +kernel
theorem dX8_extend_34 : decode cX8_extend 34 = .ok (.iload_n 1, 1) := by decide +kernel
theorem dX8_extend_35 : decode cX8_extend 35 = .ok (.invokevirtual 59, 3) := by decide +kernel
theorem dX8_extend_38 : decode cX8_extend 38 = .ok (.bipush 12, 2) := by decide +kernel
theorem dX8_extend_40 : decode cX8_extend 40 = .ok (.if_icmp .ne 6, 3) := by decide +kernel
theorem dX8_extend_43 : decode cX8_extend 43 = .ok (.ldc 109, 2) := by decide +kernel
theorem dX8_extend_45 : decode cX8_extend 45 = .ok (.ireturn, 1) := by decide +kernel
theorem dX8_extend_46 : decode cX8_extend 46 = .ok (.aload_n 0, 1) := by decide +kernel
theorem dX8_extend_47 : decode cX8_extend 47 = .ok (.invokevirtual 110, 3) := by decide +kernel
theorem dX8_extend_50 : decode cX8_extend 50 = .ok (.aload_n 0, 1) := by decide +kernel
theorem dX8_extend_51 : decode cX8_extend 51 = .ok (.iload_n 1, 1) := by decide +kernel
theorem dX8_extend_52 : decode cX8_extend 52 = .ok (.aload_n 0, 1) := by decide +kernel
theorem dX8_extend_53 : decode cX8_extend 53 = .ok (.iload_n 1, 1) := by decide +kernel
theorem dX8_extend_54 : decode cX8_extend 54 = .ok (.invokevirtual 59, 3) := by decide +kernel
theorem dX8_extend_57 : decode cX8_extend 57 = .ok (.iload_n 2, 1) := by decide +kernel
theorem dX8_extend_58 : decode cX8_extend 58 = .ok (.ldc 113, 2) := by decide +kernel
theorem dX8_extend_60 : decode cX8_extend 60 = .ok (.imul, 1) := by decide +kernel
theorem dX8_extend_61 : decode cX8_extend 61 = .ok (.iload_n 3, 1) := by decide +kernel
theorem dX8_extend_62 : decode cX8_extend 62 = .ok (.ldc 113, 2) := by decide +kernel
theorem dX8_extend_64 : decode cX8_extend 64 = .ok (.imul, 1) := by decide +kernel
theorem dX8_extend_65 : decode cX8_extend 65 = .ok (.invokevirtual 114, 3) := by decide +kernel
theorem dX8_extend_68 : decode cX8_extend 68 = .ok (.aload_n 0, 1) := by decide +kernel
theorem dX8_extend_69 : decode cX8_extend 69 = .ok (.getfield 7, 3) := by decide +kernel
theorem dX8_extend_72 : decode cX8_extend 72 = .ok (.iload_n 1, 1) := by decide +kernel
theorem dX8_extend_73 : decode cX8_extend 73 = .ok (.invokestatic 51, 3) := by decide +kernel
theorem dX8_extend_76 : decode cX8_extend 76 = .ok (.dup2, 1) := by decide +kernel
theorem dX8_extend_77 : decode cX8_extend 77 = .ok (.iaload, 1) := by decide +kernel
theorem dX8_extend_78 : decode cX8_extend 78 = .ok (.iconst 1, 1) := by decide +kernel
theorem dX8_extend_79 : decode cX8_extend 79 = .ok (.iadd, 1) := by decide +kernel
theorem dX8_extend_80 : decode cX8_extend 80 = .ok (.iastore, 1) := by decide +kernel
theorem dX8_extend_81 : decode cX8_extend 81 = .ok (.aload_n 0, 1) := by decide +kernel
theorem dX8_extend_82 : decode cX8_extend 82 = .ok (.aload_n 0, 1) := by decide +kernel
theorem dX8_extend_83 : decode cX8_extend 83 = .ok (.iload_n 1, 1) := by decide +kernel
theorem dX8_extend_84 : decode cX8_extend 84 = .ok (.invokevirtual 59, 3) := by decide +kernel
theorem dX8_extend_87 : decode cX8_extend 87 = .ok (.invokevirtual 118, 3) := by decide +kernel
theorem dX8_extend_90 : decode cX8_extend 90 = .ok (.ireturn, 1) := by decide +kernel
theorem dX8_removes_0 : decode cX8_removes 0 = .ok (.iload_n 1, 1) := by decide +kernel
theorem dX8_removes_1 : decode cX8_removes 1 = .ok (.invokestatic 51, 3) := by decide +kernel
theorem dX8_removes_4 : decode cX8_removes 4 = .ok (.istore_n 2, 1) := by decide +kernel
theorem dX8_removes_5 : decode cX8_removes 5 = .ok (.iload_n 2, 1) := by decide +kernel
theorem dX8_removes_6 : decode cX8_removes 6 = .ok (.iconst 5, 1) := by decide +kernel
theorem dX8_removes_7 : decode cX8_removes 7 = .ok (.invokestatic 51, 3) := by decide +kernel
theorem dX8_removes_10 : decode cX8_removes 10 = .ok (.if_icmp .ge 24, 3) := by decide +kernel
theorem dX8_removes_13 : decode cX8_removes 13 = .ok (.aload_n 0, 1) := by decide +kernel
theorem dX8_removes_14 : decode cX8_removes 14 = .ok (.getfield 7, 3) := by decide +kernel
theorem dX8_removes_17 : decode cX8_removes 17 = .ok (.iload_n 2, 1) := by decide +kernel
theorem dX8_removes_18 : decode cX8_removes 18 = .ok (.aload_n 0, 1) := by decide +kernel
theorem dX8_removes_19 : decode cX8_removes 19 = .ok (.getfield 7, 3) := by decide +kernel
theorem dX8_removes_22 : decode cX8_removes 22 = .ok (.iload_n 2, 1) := by decide +kernel
theorem dX8_removes_23 : decode cX8_removes 23 = .ok (.bipush 98, 2) := by decide +kernel
theorem dX8_removes_25 : decode cX8_removes 25 = .ok (.iadd, 1) := by decide +kernel
theorem dX8_removes_26 : decode cX8_removes 26 = .ok (.iaload, 1) := by decide +kernel
theorem dX8_removes_27 : decode cX8_removes 27 = .ok (.iastore, 1) := by decide +kernel
theorem dX8_removes_28 : decode cX8_removes 28 = .ok (.iinc 2 1, 3) := by decide +kernel
theorem dX8_removes_31 : decode cX8_removes 31 = .ok (.goto (-26), 3) := by decide +kernel
theorem dX8_removes_34 : decode cX8_removes 34 = .ok (.aload_n 0, 1) := by decide +kernel
theorem dX8_removes_35 : decode cX8_removes 35 = .ok (.getfield 7, 3) := by decide +kernel
theorem dX8_removes_38 : decode cX8_removes 38 = .ok (.iconst 0, 1) := by decide +kernel
theorem dX8_removes_39 : decode cX8_removes 39 = .ok (.dup2, 1) := by decide +kernel
theorem dX8_removes_40 : decode cX8_removes 40 = .ok (.iaload, 1) := by decide +kernel
theorem dX8_removes_41 : decode cX8_removes 41 = .ok (.iconst 1, 1) := by decide +kernel
theorem dX8_removes_42 : decode cX8_removes 42 = .ok (.isub, 1) := by decide +kernel
theorem dX8_removes_43 : decode cX8_removes 43 = .ok (.iastore, 1) := by decide +kernel
theorem dX8_removes_44 : decode cX8_removes 44 = .ok (.return_, 1) := by decide +kernel
theorem dX8_removePath_0 : decode cX8_removePath 0 = .ok (.aload_n 0, 1) := by decide +kernel
theorem dX8_removePath_1 : decode cX8_removePath 1 = .ok (.iload_n 1, 1) := by decide +kernel
theorem dX8_removePath_2 : decode cX8_removePath 2 = .ok (.invokevirtual 55, 3) := by decide +kernel
theorem dX8_removePath_5 : decode cX8_removePath 5 = .ok (.ifCond .ne 6, 3) := by decide +kernel
theorem dX8_removePath_8 : decode cX8_removePath 8 = .ok (.ldc 121, 2) := by decide +kernel
theorem dX8_removePath_10 : decode cX8_removePath 10 = .ok (.ireturn, 1) := by decide +kernel
theorem dX8_removePath_11 : decode cX8_removePath 11 = .ok (.aload_n 0, 1) := by decide +kernel
theorem dX8_removePath_12 : decode cX8_removePath 12 = .ok (.invokevirtual 110, 3) := by decide +kernel
theorem dX8_removePath_15 : decode cX8_removePath 15 = .ok (.aload_n 0, 1) := by decide +kernel
theorem dX8_removePath_16 : decode cX8_removePath 16 = .ok (.iload_n 1, 1) := by decide +kernel
theorem dX8_removePath_17 : decode cX8_removePath 17 = .ok (.invokevirtual 123, 3) := by decide +kernel
theorem dX8_removePath_20 : decode cX8_removePath 20 = .ok (.aload_n 0, 1) := by decide +kernel
theorem dX8_removePath_21 : decode cX8_removePath 21 = .ok (.aload_n 0, 1) := by decide +kernel
theorem dX8_removePath_22 : decode cX8_removePath 22 = .ok (.getfield 7, 3) := by decide +kernel
theorem dX8_removePath_25 : decode cX8_removePath 25 = .ok (.iconst 0, 1) := by decide +kernel
theorem dX8_removePath_26 : decode cX8_removePath 26 = .ok (.iaload, 1) := by decide +kernel
theorem dX8_removePath_27 : decode cX8_removePath 27 = .ok (.invokevirtual 118, 3) := by decide +kernel
theorem dX8_removePath_30 : decode cX8_removePath 30 = .ok (.ireturn, 1) := by decide +kernel
theorem dX8_moveNode_0 : decode cX8_moveNode 0 = .ok (.aload_n 0, 1) := by decide +kernel
theorem dX8_moveNode_1 : decode cX8_moveNode 1 = .ok (.iload_n 1, 1) := by decide +kernel
theorem dX8_moveNode_2 : decode cX8_moveNode 2 = .ok (.iload_n 2, 1) := by decide +kernel
theorem dX8_moveNode_3 : decode cX8_moveNode 3 = .ok (.invokevirtual 127, 3) := by decide +kernel
theorem dX8_moveNode_6 : decode cX8_moveNode 6 = .ok (.ifCond .ne 6, 3) := by decide +kernel
theorem dX8_moveNode_9 : decode cX8_moveNode 9 = .ok (.ldc 121, 2) := by decide +kernel
theorem dX8_moveNode_11 : decode cX8_moveNode 11 = .ok (.ireturn, 1) := by decide +kernel
theorem dX8_moveNode_12 : decode cX8_moveNode 12 = .ok (.iload_n 3, 1) := by decide +kernel
theorem dX8_moveNode_13 : decode cX8_moveNode 13 = .ok (.iload 4, 2) := by decide +kernel
theorem dX8_moveNode_15 : decode cX8_moveNode 15 = .ok (.invokestatic 104, 3) := by decide +kernel
theorem dX8_moveNode_18 : decode cX8_moveNode 18 = .ok (.ifCond .ne 6, 3) := by decide +kernel
theorem dX8_moveNode_21 : decode cX8_moveNode 21 = .ok (.ldc 108, 2) := by decide +kernel
theorem dX8_moveNode_23 : decode cX8_moveNode 23 = .ok (.ireturn, 1) := by decide +kernel
theorem dX8_moveNode_24 : decode cX8_moveNode 24 = .ok (.aload_n 0, 1) := by decide +kernel
theorem dX8_moveNode_25 : decode cX8_moveNode 25 = .ok (.invokevirtual 110, 3) := by decide +kernel
theorem dX8_moveNode_28 : decode cX8_moveNode 28 = .ok (.aload_n 0, 1) := by decide +kernel
theorem dX8_moveNode_29 : decode cX8_moveNode 29 = .ok (.iconst 0, 1) := by decide +kernel
theorem dX8_moveNode_30 : decode cX8_moveNode 30 = .ok (.putfield 84, 3) := by decide +kernel
theorem dX8_moveNode_33 : decode cX8_moveNode 33 = .ok (.aload_n 0, 1) := by decide +kernel
theorem dX8_moveNode_34 : decode cX8_moveNode 34 = .ok (.iload_n 1, 1) := by decide +kernel
theorem dX8_moveNode_35 : decode cX8_moveNode 35 = .ok (.iload_n 2, 1) := by decide +kernel
theorem dX8_moveNode_36 : decode cX8_moveNode 36 = .ok (.iconst 0, 1) := by decide +kernel
theorem dX8_moveNode_37 : decode cX8_moveNode 37 = .ok (.invokestatic 92, 3) := by decide +kernel
theorem dX8_moveNode_40 : decode cX8_moveNode 40 = .ok (.aload_n 0, 1) := by decide +kernel
theorem dX8_moveNode_41 : decode cX8_moveNode 41 = .ok (.getfield 7, 3) := by decide +kernel
theorem dX8_moveNode_44 : decode cX8_moveNode 44 = .ok (.iload_n 1, 1) := by decide +kernel
theorem dX8_moveNode_45 : decode cX8_moveNode 45 = .ok (.iload_n 2, 1) := by decide +kernel
theorem dX8_moveNode_46 : decode cX8_moveNode 46 = .ok (.iconst 0, 1) := by decide +kernel
theorem dX8_moveNode_47 : decode cX8_moveNode 47 = .ok (.invokestatic 92, 3) := by decide +kernel
theorem dX8_moveNode_50 : decode cX8_moveNode 50 = .ok (.iaload, 1) := by decide +kernel
theorem dX8_moveNode_51 : decode cX8_moveNode 51 = .ok (.i2l, 1) := by decide +kernel
theorem dX8_moveNode_52 : decode cX8_moveNode 52 = .ok (.iload_n 3, 1) := by decide +kernel
theorem dX8_moveNode_53 : decode cX8_moveNode 53 = .ok (.i2l, 1) := by decide +kernel
theorem dX8_moveNode_54 : decode cX8_moveNode 54 = .ok (.ldc2_w 130, 3) := by decide +kernel
theorem dX8_moveNode_57 : decode cX8_moveNode 57 = .ok (.lmul, 1) := by decide +kernel
theorem dX8_moveNode_58 : decode cX8_moveNode 58 = .ok (.ladd, 1) := by decide +kernel
theorem dX8_moveNode_59 : decode cX8_moveNode 59 = .ok (.lconst 1, 1) := by decide +kernel
theorem dX8_moveNode_60 : decode cX8_moveNode 60 = .ok (.invokevirtual 100, 3) := by decide +kernel
theorem dX8_moveNode_63 : decode cX8_moveNode 63 = .ok (.aload_n 0, 1) := by decide +kernel
theorem dX8_moveNode_64 : decode cX8_moveNode 64 = .ok (.iload_n 1, 1) := by decide +kernel
theorem dX8_moveNode_65 : decode cX8_moveNode 65 = .ok (.iload_n 2, 1) := by decide +kernel
theorem dX8_moveNode_66 : decode cX8_moveNode 66 = .ok (.iconst 1, 1) := by decide +kernel
theorem dX8_moveNode_67 : decode cX8_moveNode 67 = .ok (.invokestatic 92, 3) := by decide +kernel
theorem dX8_moveNode_70 : decode cX8_moveNode 70 = .ok (.aload_n 0, 1) := by decide +kernel
theorem dX8_moveNode_71 : decode cX8_moveNode 71 = .ok (.getfield 7, 3) := by decide +kernel
theorem dX8_moveNode_74 : decode cX8_moveNode 74 = .ok (.iload_n 1, 1) := by decide +kernel
theorem dX8_moveNode_75 : decode cX8_moveNode 75 = .ok (.iload_n 2, 1) := by decide +kernel
theorem dX8_moveNode_76 : decode cX8_moveNode 76 = .ok (.iconst 1, 1) := by decide +kernel
theorem dX8_moveNode_77 : decode cX8_moveNode 77 = .ok (.invokestatic 92, 3) := by decide +kernel
theorem dX8_moveNode_80 : decode cX8_moveNode 80 = .ok (.iaload, 1) := by decide +kernel
theorem dX8_moveNode_81 : decode cX8_moveNode 81 = .ok (.i2l, 1) := by decide +kernel
theorem dX8_moveNode_82 : decode cX8_moveNode 82 = .ok (.iload 4, 2) := by decide +kernel
theorem dX8_moveNode_84 : decode cX8_moveNode 84 = .ok (.i2l, 1) := by decide +kernel
theorem dX8_moveNode_85 : decode cX8_moveNode 85 = .ok (.ldc2_w 130, 3) := by decide +kernel
theorem dX8_moveNode_88 : decode cX8_moveNode 88 = .ok (.lmul, 1) := by decide +kernel
theorem dX8_moveNode_89 : decode cX8_moveNode 89 = .ok (.ladd, 1) := by decide +kernel
theorem dX8_moveNode_90 : decode cX8_moveNode 90 = .ok (.lconst 1, 1) := by decide +kernel
theorem dX8_moveNode_91 : decode cX8_moveNode 91 = .ok (.invokevirtual 100, 3) := by decide +kernel
theorem dX8_moveNode_94 : decode cX8_moveNode 94 = .ok (.aload_n 0, 1) := by decide +kernel
theorem dX8_moveNode_95 : decode cX8_moveNode 95 = .ok (.getfield 84, 3) := by decide +kernel
theorem dX8_moveNode_98 : decode cX8_moveNode 98 = .ok (.ifCond .ge 14, 3) := by decide +kernel
theorem dX8_moveNode_101 : decode cX8_moveNode 101 = .ok (.aload_n 0, 1) := by decide +kernel
theorem dX8_moveNode_102 : decode cX8_moveNode 102 = .ok (.aload_n 0, 1) := by decide +kernel
theorem dX8_moveNode_103 : decode cX8_moveNode 103 = .ok (.getfield 84, 3) := by decide +kernel
theorem dX8_moveNode_106 : decode cX8_moveNode 106 = .ok (.invokevirtual 132, 3) := by decide +kernel
theorem dX8_moveNode_109 : decode cX8_moveNode 109 = .ok (.goto 18, 3) := by decide +kernel
theorem dX8_moveNode_112 : decode cX8_moveNode 112 = .ok (.aload_n 0, 1) := by decide +kernel
theorem dX8_moveNode_113 : decode cX8_moveNode 113 = .ok (.aload_n 0, 1) := by decide +kernel
theorem dX8_moveNode_114 : decode cX8_moveNode 114 = .ok (.getfield 7, 3) := by decide +kernel
theorem dX8_moveNode_117 : decode cX8_moveNode 117 = .ok (.iload_n 1, 1) := by decide +kernel
theorem dX8_moveNode_118 : decode cX8_moveNode 118 = .ok (.iload_n 2, 1) := by decide +kernel
theorem dX8_moveNode_119 : decode cX8_moveNode 119 = .ok (.iconst 0, 1) := by decide +kernel
theorem dX8_moveNode_120 : decode cX8_moveNode 120 = .ok (.invokestatic 92, 3) := by decide +kernel
theorem dX8_moveNode_123 : decode cX8_moveNode 123 = .ok (.iaload, 1) := by decide +kernel
theorem dX8_moveNode_124 : decode cX8_moveNode 124 = .ok (.invokevirtual 118, 3) := by decide +kernel
theorem dX8_moveNode_127 : decode cX8_moveNode 127 = .ok (.ireturn, 1) := by decide +kernel
theorem dX8_setHandle_0 : decode cX8_setHandle 0 = .ok (.aload_n 0, 1) := by decide +kernel
theorem dX8_setHandle_1 : decode cX8_setHandle 1 = .ok (.iload_n 1, 1) := by decide +kernel
theorem dX8_setHandle_2 : decode cX8_setHandle 2 = .ok (.iload_n 2, 1) := by decide +kernel
theorem dX8_setHandle_3 : decode cX8_setHandle 3 = .ok (.invokevirtual 127, 3) := by decide +kernel
theorem dX8_setHandle_6 : decode cX8_setHandle 6 = .ok (.ifCond .ne 6, 3) := by decide +kernel
theorem dX8_setHandle_9 : decode cX8_setHandle 9 = .ok (.ldc 121, 2) := by decide +kernel
theorem dX8_setHandle_11 : decode cX8_setHandle 11 = .ok (.ireturn, 1) := by decide +kernel
theorem dX8_setHandle_12 : decode cX8_setHandle 12 = .ok (.iload 4, 2) := by decide +kernel
theorem dX8_setHandle_14 : decode cX8_setHandle 14 = .ok (.iload 5, 2) := by decide +kernel
theorem dX8_setHandle_16 : decode cX8_setHandle 16 = .ok (.invokestatic 104, 3) := by decide +kernel
theorem dX8_setHandle_19 : decode cX8_setHandle 19 = .ok (.ifCond .ne 6, 3) := by decide +kernel
theorem dX8_setHandle_22 : decode cX8_setHandle 22 = .ok (.ldc 108, 2) := by decide +kernel
theorem dX8_setHandle_24 : decode cX8_setHandle 24 = .ok (.ireturn, 1) := by decide +kernel
theorem dX8_setHandle_25 : decode cX8_setHandle 25 = .ok (.aload_n 0, 1) := by decide +kernel
theorem dX8_setHandle_26 : decode cX8_setHandle 26 = .ok (.invokevirtual 110, 3) := by decide +kernel
theorem dX8_setHandle_29 : decode cX8_setHandle 29 = .ok (.aload_n 0, 1) := by decide +kernel
theorem dX8_setHandle_30 : decode cX8_setHandle 30 = .ok (.iconst 0, 1) := by decide +kernel
theorem dX8_setHandle_31 : decode cX8_setHandle 31 = .ok (.putfield 84, 3) := by decide +kernel
theorem dX8_setHandle_34 : decode cX8_setHandle 34 = .ok (.iload_n 1, 1) := by decide +kernel
theorem dX8_setHandle_35 : decode cX8_setHandle 35 = .ok (.iload_n 2, 1) := by decide +kernel
theorem dX8_setHandle_36 : decode cX8_setHandle 36 = .ok (.iload_n 3, 1) := by decide +kernel
theorem dX8_setHandle_37 : decode cX8_setHandle 37 = .ok (.ifCond .eq 7, 3) := by decide +kernel
theorem dX8_setHandle_40 : decode cX8_setHandle 40 = .ok (.iconst 4, 1) := by decide +kernel
theorem dX8_setHandle_41 : decode cX8_setHandle 41 = .ok (.goto 4, 3) := by decide +kernel
theorem dX8_setHandle_44 : decode cX8_setHandle 44 = .ok (.iconst 2, 1) := by decide +kernel
theorem dX8_setHandle_45 : decode cX8_setHandle 45 = .ok (.invokestatic 92, 3) := by decide +kernel
theorem dX8_setHandle_48 : decode cX8_setHandle 48 = .ok (.istore 6, 2) := by decide +kernel
theorem dX8_setHandle_50 : decode cX8_setHandle 50 = .ok (.aload_n 0, 1) := by decide +kernel
theorem dX8_setHandle_51 : decode cX8_setHandle 51 = .ok (.getfield 7, 3) := by decide +kernel
theorem dX8_setHandle_54 : decode cX8_setHandle 54 = .ok (.iload 6, 2) := by decide +kernel
theorem dX8_setHandle_56 : decode cX8_setHandle 56 = .ok (.iload 4, 2) := by decide +kernel
theorem dX8_setHandle_58 : decode cX8_setHandle 58 = .ok (.ldc 113, 2) := by decide +kernel
theorem dX8_setHandle_60 : decode cX8_setHandle 60 = .ok (.imul, 1) := by decide +kernel
theorem dX8_setHandle_61 : decode cX8_setHandle 61 = .ok (.iastore, 1) := by decide +kernel
theorem dX8_setHandle_62 : decode cX8_setHandle 62 = .ok (.aload_n 0, 1) := by decide +kernel
theorem dX8_setHandle_63 : decode cX8_setHandle 63 = .ok (.getfield 7, 3) := by decide +kernel
theorem dX8_setHandle_66 : decode cX8_setHandle 66 = .ok (.iload 6, 2) := by decide +kernel
theorem dX8_setHandle_68 : decode cX8_setHandle 68 = .ok (.iconst 1, 1) := by decide +kernel
theorem dX8_setHandle_69 : decode cX8_setHandle 69 = .ok (.iadd, 1) := by decide +kernel
theorem dX8_setHandle_70 : decode cX8_setHandle 70 = .ok (.iload 5, 2) := by decide +kernel
theorem dX8_setHandle_72 : decode cX8_setHandle 72 = .ok (.ldc 113, 2) := by decide +kernel
theorem dX8_setHandle_74 : decode cX8_setHandle 74 = .ok (.imul, 1) := by decide +kernel
theorem dX8_setHandle_75 : decode cX8_setHandle 75 = .ok (.iastore, 1) := by decide +kernel
theorem dX8_setHandle_76 : decode cX8_setHandle 76 = .ok (.aload_n 0, 1) := by decide +kernel
theorem dX8_setHandle_77 : decode cX8_setHandle 77 = .ok (.iload_n 1, 1) := by decide +kernel
theorem dX8_setHandle_78 : decode cX8_setHandle 78 = .ok (.iload_n 2, 1) := by decide +kernel
theorem dX8_setHandle_79 : decode cX8_setHandle 79 = .ok (.invokevirtual 135, 3) := by decide +kernel
theorem dX8_setHandle_82 : decode cX8_setHandle 82 = .ok (.istore 7, 2) := by decide +kernel
theorem dX8_setHandle_84 : decode cX8_setHandle 84 = .ok (.iload 7, 2) := by decide +kernel
theorem dX8_setHandle_86 : decode cX8_setHandle 86 = .ok (.ifCond .eq 10, 3) := by decide +kernel
