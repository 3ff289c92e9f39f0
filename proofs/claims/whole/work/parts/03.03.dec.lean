theorem dX8_takes_23 : decode cX8_takes 23 = .ok (.iconst 1, 1) := by decide +kernel
theorem dX8_takes_24 : decode cX8_takes 24 = .ok (.goto 4, 3) := by decide +kernel
theorem dX8_takes_27 : decode cX8_takes 27 = .ok (.iconst 0, 1) := by decide +kernel
theorem dX8_takes_28 : decode cX8_takes 28 = .ok (.iadd, 1) := by decide +kernel
theorem dX8_takes_29 : decode cX8_takes 29 = .ok (.putfield 203, 3) := by decide +kernel
theorem dX8_takes_32 : decode cX8_takes 32 = .ok (.iload_n 2, 1) := by decide +kernel
theorem dX8_takes_33 : decode cX8_takes 33 = .ok (.ireturn, 1) := by decide +kernel
theorem dX8_isDigit_0 : decode cX8_isDigit 0 = .ok (.aload_n 0, 1) := by decide +kernel
theorem dX8_isDigit_1 : decode cX8_isDigit 1 = .ok (.invokevirtual 206, 3) := by decide +kernel
theorem dX8_isDigit_4 : decode cX8_isDigit 4 = .ok (.bipush 48, 2) := by decide +kernel
theorem dX8_isDigit_6 : decode cX8_isDigit 6 = .ok (.bipush 57, 2) := by decide +kernel
theorem dX8_isDigit_8 : decode cX8_isDigit 8 = .ok (.invokestatic 47, 3) := by decide +kernel
theorem dX8_isDigit_11 : decode cX8_isDigit 11 = .ok (.ireturn, 1) := by decide +kernel
theorem dX8_number_0 : decode cX8_number 0 = .ok (.aload_n 0, 1) := by decide +kernel
theorem dX8_number_1 : decode cX8_number 1 = .ok (.getfield 203, 3) := by decide +kernel
theorem dX8_number_4 : decode cX8_number 4 = .ok (.istore_n 2, 1) := by decide +kernel
theorem dX8_number_5 : decode cX8_number 5 = .ok (.aload_n 0, 1) := by decide +kernel
theorem dX8_number_6 : decode cX8_number 6 = .ok (.bipush 45, 2) := by decide +kernel
theorem dX8_number_8 : decode cX8_number 8 = .ok (.invokevirtual 210, 3) := by decide +kernel
theorem dX8_number_11 : decode cX8_number 11 = .ok (.istore_n 3, 1) := by decide +kernel
theorem dX8_number_12 : decode cX8_number 12 = .ok (.aload_n 0, 1) := by decide +kernel
theorem dX8_number_13 : decode cX8_number 13 = .ok (.invokevirtual 213, 3) := by decide +kernel
theorem dX8_number_16 : decode cX8_number 16 = .ok (.ifCond .eq 16, 3) := by decide +kernel
theorem dX8_number_19 : decode cX8_number 19 = .ok (.iload_n 3, 1) := by decide +kernel
theorem dX8_number_20 : decode cX8_number 20 = .ok (.ifCond .eq 14, 3) := by decide +kernel
theorem dX8_number_23 : decode cX8_number 23 = .ok (.aload_n 0, 1) := by decide +kernel
theorem dX8_number_24 : decode cX8_number 24 = .ok (.invokevirtual 206, 3) := by decide +kernel
theorem dX8_number_27 : decode cX8_number 27 = .ok (.bipush 48, 2) := by decide +kernel
theorem dX8_number_29 : decode cX8_number 29 = .ok (.if_icmp .ne 5, 3) := by decide +kernel
theorem dX8_number_32 : decode cX8_number 32 = .ok (.iconst 0, 1) := by decide +kernel
theorem dX8_number_33 : decode cX8_number 33 = .ok (.ireturn, 1) := by decide +kernel
theorem dX8_number_34 : decode cX8_number 34 = .ok (.iconst 0, 1) := by decide +kernel
theorem dX8_number_35 : decode cX8_number 35 = .ok (.istore 4, 2) := by decide +kernel
theorem dX8_number_37 : decode cX8_number 37 = .ok (.aload_n 0, 1) := by decide +kernel
theorem dX8_number_38 : decode cX8_number 38 = .ok (.invokevirtual 206, 3) := by decide +kernel
theorem dX8_number_41 : decode cX8_number 41 = .ok (.bipush 48, 2) := by decide +kernel
theorem dX8_number_43 : decode cX8_number 43 = .ok (.if_icmp .ne 16, 3) := by decide +kernel
theorem dX8_number_46 : decode cX8_number 46 = .ok (.aload_n 0, 1) := by decide +kernel
theorem dX8_number_47 : decode cX8_number 47 = .ok (.dup, 1) := by decide +kernel
theorem dX8_number_48 : decode cX8_number 48 = .ok (.getfield 203, 3) := by decide +kernel
theorem dX8_number_51 : decode cX8_number 51 = .ok (.iconst 1, 1) := by decide +kernel
theorem dX8_number_52 : decode cX8_number 52 = .ok (.iadd, 1) := by decide +kernel
theorem dX8_number_53 : decode cX8_number 53 = .ok (.putfield 203, 3) := by decide +kernel
theorem dX8_number_56 : decode cX8_number 56 = .ok (.goto 50, 3) := by decide +kernel
theorem dX8_number_59 : decode cX8_number 59 = .ok (.aload_n 0, 1) := by decide +kernel
theorem dX8_number_60 : decode cX8_number 60 = .ok (.invokevirtual 213, 3) := by decide +kernel
theorem dX8_number_63 : decode cX8_number 63 = .ok (.ifCond .eq 43, 3) := by decide +kernel
theorem dX8_number_66 : decode cX8_number 66 = .ok (.iload 4, 2) := by decide +kernel
theorem dX8_number_68 : decode cX8_number 68 = .ok (.ldc 217, 2) := by decide +kernel
theorem dX8_number_70 : decode cX8_number 70 = .ok (.if_icmp .ge 19, 3) := by decide +kernel
theorem dX8_number_73 : decode cX8_number 73 = .ok (.bipush 10, 2) := by decide +kernel
theorem dX8_number_75 : decode cX8_number 75 = .ok (.iload 4, 2) := by decide +kernel
theorem dX8_number_77 : decode cX8_number 77 = .ok (.imul, 1) := by decide +kernel
theorem dX8_number_78 : decode cX8_number 78 = .ok (.aload_n 0, 1) := by decide +kernel
theorem dX8_number_79 : decode cX8_number 79 = .ok (.invokevirtual 206, 3) := by decide +kernel
theorem dX8_number_82 : decode cX8_number 82 = .ok (.iadd, 1) := by decide +kernel
theorem dX8_number_83 : decode cX8_number 83 = .ok (.bipush 48, 2) := by decide +kernel
theorem dX8_number_85 : decode cX8_number 85 = .ok (.isub, 1) := by decide +kernel
theorem dX8_number_86 : decode cX8_number 86 = .ok (.goto 5, 3) := by decide +kernel
theorem dX8_number_89 : decode cX8_number 89 = .ok (.iload 4, 2) := by decide +kernel
theorem dX8_number_91 : decode cX8_number 91 = .ok (.istore 4, 2) := by decide +kernel
theorem dX8_number_93 : decode cX8_number 93 = .ok (.aload_n 0, 1) := by decide +kernel
theorem dX8_number_94 : decode cX8_number 94 = .ok (.dup, 1) := by decide +kernel
theorem dX8_number_95 : decode cX8_number 95 = .ok (.getfield 203, 3) := by decide +kernel
theorem dX8_number_98 : decode cX8_number 98 = .ok (.iconst 1, 1) := by decide +kernel
theorem dX8_number_99 : decode cX8_number 99 = .ok (.iadd, 1) := by decide +kernel
theorem dX8_number_100 : decode cX8_number 100 = .ok (.putfield 203, 3) := by decide +kernel
theorem dX8_number_103 : decode cX8_number 103 = .ok (.goto (-44), 3) := by decide +kernel
theorem dX8_number_106 : decode cX8_number 106 = .ok (.aload_n 0, 1) := by decide +kernel
theorem dX8_number_107 : decode cX8_number 107 = .ok (.iload_n 3, 1) := by decide +kernel
theorem dX8_number_108 : decode cX8_number 108 = .ok (.ifCond .eq 9, 3) := by decide +kernel
theorem dX8_number_111 : decode cX8_number 111 = .ok (.iload 4, 2) := by decide +kernel
theorem dX8_number_113 : decode cX8_number 113 = .ok (.ineg, 1) := by decide +kernel
theorem dX8_number_114 : decode cX8_number 114 = .ok (.goto 5, 3) := by decide +kernel
theorem dX8_number_117 : decode cX8_number 117 = .ok (.iload 4, 2) := by decide +kernel
theorem dX8_number_119 : decode cX8_number 119 = .ok (.putfield 218, 3) := by decide +kernel
theorem dX8_number_122 : decode cX8_number 122 = .ok (.iload 4, 2) := by decide +kernel
theorem dX8_number_124 : decode cX8_number 124 = .ok (.sipush 200, 3) := by decide +kernel
theorem dX8_number_127 : decode cX8_number 127 = .ok (.if_icmp .gt 21, 3) := by decide +kernel
theorem dX8_number_130 : decode cX8_number 130 = .ok (.aload_n 0, 1) := by decide +kernel
theorem dX8_number_131 : decode cX8_number 131 = .ok (.getfield 218, 3) := by decide +kernel
theorem dX8_number_134 : decode cX8_number 134 = .ok (.iload_n 1, 1) := by decide +kernel
theorem dX8_number_135 : decode cX8_number 135 = .ok (.isub, 1) := by decide +kernel
theorem dX8_number_136 : decode cX8_number 136 = .ok (.sipush (-200), 3) := by decide +kernel
theorem dX8_number_139 : decode cX8_number 139 = .ok (.sipush 200, 3) := by decide +kernel
theorem dX8_number_142 : decode cX8_number 142 = .ok (.invokestatic 47, 3) := by decide +kernel
theorem dX8_number_145 : decode cX8_number 145 = .ok (.ifCond .ne 10, 3) := by decide +kernel
theorem dX8_number_148 : decode cX8_number 148 = .ok (.aload_n 0, 1) := by decide +kernel
theorem dX8_number_149 : decode cX8_number 149 = .ok (.iload_n 2, 1) := by decide +kernel
theorem dX8_number_150 : decode cX8_number 150 = .ok (.putfield 203, 3) := by decide +kernel
theorem dX8_number_153 : decode cX8_number 153 = .ok (.iconst 0, 1) := by decide +kernel
theorem dX8_number_154 : decode cX8_number 154 = .ok (.ireturn, 1) := by decide +kernel
theorem dX8_number_155 : decode cX8_number 155 = .ok (.iconst 1, 1) := by decide +kernel
theorem dX8_number_156 : decode cX8_number 156 = .ok (.ireturn, 1) := by decide +kernel
theorem dX8_position_0 : decode cX8_position 0 = .ok (.aload_n 0, 1) := by decide +kernel
theorem dX8_position_1 : decode cX8_position 1 = .ok (.iload_n 1, 1) := by decide +kernel
theorem dX8_position_2 : decode cX8_position 2 = .ok (.invokevirtual 221, 3) := by decide +kernel
theorem dX8_position_5 : decode cX8_position 5 = .ok (.ifCond .ne 5, 3) := by decide +kernel
theorem dX8_position_8 : decode cX8_position 8 = .ok (.iconst 0, 1) := by decide +kernel
theorem dX8_position_9 : decode cX8_position 9 = .ok (.ireturn, 1) := by decide +kernel
theorem dX8_position_10 : decode cX8_position 10 = .ok (.aload_n 0, 1) := by decide +kernel
theorem dX8_position_11 : decode cX8_position 11 = .ok (.aload_n 0, 1) := by decide +kernel
theorem dX8_position_12 : decode cX8_position 12 = .ok (.getfield 218, 3) := by decide +kernel
theorem dX8_position_15 : decode cX8_position 15 = .ok (.putfield 223, 3) := by decide +kernel
theorem dX8_position_18 : decode cX8_position 18 = .ok (.aload_n 0, 1) := by decide +kernel
theorem dX8_position_19 : decode cX8_position 19 = .ok (.bipush 32, 2) := by decide +kernel
theorem dX8_position_21 : decode cX8_position 21 = .ok (.invokevirtual 210, 3) := by decide +kernel
theorem dX8_position_24 : decode cX8_position 24 = .ok (.ifCond .eq 11, 3) := by decide +kernel
theorem dX8_position_27 : decode cX8_position 27 = .ok (.aload_n 0, 1) := by decide +kernel
theorem dX8_position_28 : decode cX8_position 28 = .ok (.iload_n 2, 1) := by decide +kernel
theorem dX8_position_29 : decode cX8_position 29 = .ok (.invokevirtual 221, 3) := by decide +kernel
theorem dX8_position_32 : decode cX8_position 32 = .ok (.ifCond .ne 5, 3) := by decide +kernel
theorem dX8_position_35 : decode cX8_position 35 = .ok (.iconst 0, 1) := by decide +kernel
theorem dX8_position_36 : decode cX8_position 36 = .ok (.ireturn, 1) := by decide +kernel
theorem dX8_position_37 : decode cX8_position 37 = .ok (.aload_n 0, 1) := by decide +kernel
theorem dX8_position_38 : decode cX8_position 38 = .ok (.aload_n 0, 1) := by decide +kernel
theorem dX8_position_39 : decode cX8_position 39 = .ok (.getfield 218, 3) := by decide +kernel
theorem dX8_position_42 : decode cX8_position 42 = .ok (.putfield 226, 3) := by decide +kernel
theorem dX8_position_45 : decode cX8_position 45 = .ok (.iconst 1, 1) := by decide +kernel
theorem dX8_position_46 : decode cX8_position 46 = .ok (.ireturn, 1) := by decide +kernel
theorem dX8_tells_0 : decode cX8_tells 0 = .ok (.iconst 0, 1) := by decide +kernel
theorem dX8_tells_1 : decode cX8_tells 1 = .ok (.istore_n 3, 1) := by decide +kernel
theorem dX8_tells_2 : decode cX8_tells 2 = .ok (.iload_n 3, 1) := by decide +kernel
theorem dX8_tells_3 : decode cX8_tells 3 = .ok (.bipush 8, 2) := by decide +kernel
theorem dX8_tells_5 : decode cX8_tells 5 = .ok (.if_icmp .ge 24, 3) := by decide +kernel
theorem dX8_tells_8 : decode cX8_tells 8 = .ok (.aload_n 0, 1) := by decide +kernel
theorem dX8_tells_9 : decode cX8_tells 9 = .ok (.getfield 41, 3) := by decide +kernel
theorem dX8_tells_12 : decode cX8_tells 12 = .ok (.bipush 8, 2) := by decide +kernel
theorem dX8_tells_14 : decode cX8_tells 14 = .ok (.aload_n 0, 1) := by decide +kernel
theorem dX8_tells_15 : decode cX8_tells 15 = .ok (.getfield 229, 3) := by decide +kernel
theorem dX8_tells_18 : decode cX8_tells 18 = .ok (.imul, 1) := by decide +kernel
theorem dX8_tells_19 : decode cX8_tells 19 = .ok (.iload_n 3, 1) := by decide +kernel
theorem dX8_tells_20 : decode cX8_tells 20 = .ok (.iadd, 1) := by decide +kernel
theorem dX8_tells_21 : decode cX8_tells 21 = .ok (.iconst 0, 1) := by decide +kernel
theorem dX8_tells_22 : decode cX8_tells 22 = .ok (.iastore, 1) := by decide +kernel
theorem dX8_tells_23 : decode cX8_tells 23 = .ok (.iinc 3 1, 3) := by decide +kernel
theorem dX8_tells_26 : decode cX8_tells 26 = .ok (.goto (-24), 3) := by decide +kernel
theorem dX8_tells_29 : decode cX8_tells 29 = .ok (.aload_n 0, 1) := by decide +kernel
theorem dX8_tells_30 : decode cX8_tells 30 = .ok (.getfield 41, 3) := by decide +kernel
theorem dX8_tells_33 : decode cX8_tells 33 = .ok (.bipush 8, 2) := by decide +kernel
theorem dX8_tells_35 : decode cX8_tells 35 = .ok (.aload_n 0, 1) := by decide +kernel
theorem dX8_tells_36 : decode cX8_tells 36 = .ok (.getfield 229, 3) := by decide +kernel
theorem dX8_tells_39 : decode cX8_tells 39 = .ok (.imul, 1) := by decide +kernel
theorem dX8_tells_40 : decode cX8_tells 40 = .ok (.iload_n 1, 1) := by decide +kernel
theorem dX8_tells_41 : decode cX8_tells 41 = .ok (.iastore, 1) := by decide +kernel
theorem dX8_tells_42 : decode cX8_tells 42 = .ok (.aload_n 0, 1) := by decide +kernel
theorem dX8_tells_43 : decode cX8_tells 43 = .ok (.getfield 41, 3) := by decide +kernel
theorem dX8_tells_46 : decode cX8_tells 46 = .ok (.bipush 8, 2) := by decide +kernel
theorem dX8_tells_48 : decode cX8_tells 48 = .ok (.aload_n 0, 1) := by decide +kernel
theorem dX8_tells_49 : decode cX8_tells 49 = .ok (.getfield 229, 3) := by decide +kernel
theorem dX8_tells_52 : decode cX8_tells 52 = .ok (.imul, 1) := by decide +kernel
theorem dX8_tells_53 : decode cX8_tells 53 = .ok (.iconst 1, 1) := by decide +kernel
theorem dX8_tells_54 : decode cX8_tells 54 = .ok (.iadd, 1) := by decide +kernel
theorem dX8_tells_55 : decode cX8_tells 55 = .ok (.iload_n 2, 1) := by decide +kernel
theorem dX8_tells_56 : decode cX8_tells 56 = .ok (.iastore, 1) := by decide +kernel
theorem dX8_tells_57 : decode cX8_tells 57 = .ok (.aload_n 0, 1) := by decide +kernel
theorem dX8_tells_58 : decode cX8_tells 58 = .ok (.dup, 1) := by decide +kernel
theorem dX8_tells_59 : decode cX8_tells 59 = .ok (.getfield 229, 3) := by decide +kernel
theorem dX8_tells_62 : decode cX8_tells 62 = .ok (.iconst 1, 1) := by decide +kernel
theorem dX8_tells_63 : decode cX8_tells 63 = .ok (.iadd, 1) := by decide +kernel
theorem dX8_tells_64 : decode cX8_tells 64 = .ok (.putfield 229, 3) := by decide +kernel
theorem dX8_tells_67 : decode cX8_tells 67 = .ok (.return_, 1) := by decide +kernel
theorem dX8_curve_0 : decode cX8_curve 0 = .ok (.bipush 8, 2) := by decide +kernel
theorem dX8_curve_2 : decode cX8_curve 2 = .ok (.aload_n 0, 1) := by decide +kernel
theorem dX8_curve_3 : decode cX8_curve 3 = .ok (.getfield 229, 3) := by decide +kernel
theorem dX8_curve_6 : decode cX8_curve 6 = .ok (.iconst 1, 1) := by decide +kernel
theorem dX8_curve_7 : decode cX8_curve 7 = .ok (.isub, 1) := by decide +kernel
theorem dX8_curve_8 : decode cX8_curve 8 = .ok (.imul, 1) := by decide +kernel
theorem dX8_curve_9 : decode cX8_curve 9 = .ok (.istore_n 1, 1) := by decide +kernel
theorem dX8_curve_10 : decode cX8_curve 10 = .ok (.aload_n 0, 1) := by decide +kernel
theorem dX8_curve_11 : decode cX8_curve 11 = .ok (.aload_n 0, 1) := by decide +kernel
theorem dX8_curve_12 : decode cX8_curve 12 = .ok (.getfield 41, 3) := by decide +kernel
theorem dX8_curve_15 : decode cX8_curve 15 = .ok (.iload_n 1, 1) := by decide +kernel
theorem dX8_curve_16 : decode cX8_curve 16 = .ok (.iaload, 1) := by decide +kernel
theorem dX8_curve_17 : decode cX8_curve 17 = .ok (.aload_n 0, 1) := by decide +kernel
theorem dX8_curve_18 : decode cX8_curve 18 = .ok (.getfield 41, 3) := by decide +kernel
theorem dX8_curve_21 : decode cX8_curve 21 = .ok (.iload_n 1, 1) := by decide +kernel
theorem dX8_curve_22 : decode cX8_curve 22 = .ok (.iconst 1, 1) := by decide +kernel
theorem dX8_curve_23 : decode cX8_curve 23 = .ok (.iadd, 1) := by decide +kernel
theorem dX8_curve_24 : decode cX8_curve 24 = .ok (.iaload, 1) := by decide +kernel
theorem dX8_curve_25 : decode cX8_curve 25 = .ok (.invokevirtual 232, 3) := by decide +kernel
theorem dX8_curve_28 : decode cX8_curve 28 = .ok (.ifCond .ne 5, 3) := by decide +kernel
theorem dX8_curve_31 : decode cX8_curve 31 = .ok (.iconst 0, 1) := by decide +kernel
theorem dX8_curve_32 : decode cX8_curve 32 = .ok (.ireturn, 1) := by decide +kernel
theorem dX8_curve_33 : decode cX8_curve 33 = .ok (.aload_n 0, 1) := by decide +kernel
theorem dX8_curve_34 : decode cX8_curve 34 = .ok (.getfield 41, 3) := by decide +kernel
theorem dX8_curve_37 : decode cX8_curve 37 = .ok (.iload_n 1, 1) := by decide +kernel
theorem dX8_curve_38 : decode cX8_curve 38 = .ok (.iconst 4, 1) := by decide +kernel
theorem dX8_curve_39 : decode cX8_curve 39 = .ok (.iadd, 1) := by decide +kernel
theorem dX8_curve_40 : decode cX8_curve 40 = .ok (.aload_n 0, 1) := by decide +kernel
theorem dX8_curve_41 : decode cX8_curve 41 = .ok (.getfield 223, 3) := by decide +kernel
theorem dX8_curve_44 : decode cX8_curve 44 = .ok (.aload_n 0, 1) := by decide +kernel
theorem dX8_curve_45 : decode cX8_curve 45 = .ok (.getfield 41, 3) := by decide +kernel
theorem dX8_curve_48 : decode cX8_curve 48 = .ok (.iload_n 1, 1) := by decide +kernel
theorem dX8_curve_49 : decode cX8_curve 49 = .ok (.iaload, 1) := by decide +kernel
theorem dX8_curve_50 : decode cX8_curve 50 = .ok (.isub, 1) := by decide +kernel
theorem dX8_curve_51 : decode cX8_curve 51 = .ok (.iastore, 1) := by decide +kernel
theorem dX8_curve_52 : decode cX8_curve 52 = .ok (.aload_n 0, 1) := by decide +kernel
theorem dX8_curve_53 : decode cX8_curve 53 = .ok (.getfield 41, 3) := by decide +kernel
theorem dX8_curve_56 : decode cX8_curve 56 = .ok (.iload_n 1, 1) := by decide +kernel
theorem dX8_curve_57 : decode cX8_curve 57 = .ok (.iconst 4, 1) := by decide +kernel
theorem dX8_curve_58 : decode cX8_curve 58 = .ok (.iadd, 1) := by decide +kernel
theorem dX8_curve_59 : decode cX8_curve 59 = .ok (.iconst 1, 1) := by decide +kernel
theorem dX8_curve_60 : decode cX8_curve 60 = .ok (.iadd, 1) := by decide +kernel
theorem dX8_curve_61 : decode cX8_curve 61 = .ok (.aload_n 0, 1) := by decide +kernel
theorem dX8_curve_62 : decode cX8_curve 62 = .ok (.getfield 226, 3) := by decide +kernel
theorem dX8_curve_65 : decode cX8_curve 65 = .ok (.aload_n 0, 1) := by decide +kernel
theorem dX8_curve_66 : decode cX8_curve 66 = .ok (.getfield 41, 3) := by decide +kernel
theorem dX8_curve_69 : decode cX8_curve 69 = .ok (.iload_n 1, 1) := by decide +kernel
theorem dX8_curve_70 : decode cX8_curve 70 = .ok (.iconst 1, 1) := by decide +kernel
theorem dX8_curve_71 : decode cX8_curve 71 = .ok (.iadd, 1) := by decide +kernel
theorem dX8_curve_72 : decode cX8_curve 72 = .ok (.iaload, 1) := by decide +kernel
theorem dX8_curve_73 : decode cX8_curve 73 = .ok (.isub, 1) := by decide +kernel
theorem dX8_curve_74 : decode cX8_curve 74 = .ok (.iastore, 1) := by decide +kernel
theorem dX8_curve_75 : decode cX8_curve 75 = .ok (.aload_n 0, 1) := by decide +kernel
theorem dX8_curve_76 : decode cX8_curve 76 = .ok (.bipush 32, 2) := by decide +kernel
theorem dX8_curve_78 : decode cX8_curve 78 = .ok (.invokevirtual 210, 3) := by decide +kernel
theorem dX8_curve_81 : decode cX8_curve 81 = .ok (.ifCond .eq 12, 3) := by decide +kernel
theorem dX8_curve_84 : decode cX8_curve 84 = .ok (.aload_n 0, 1) := by decide +kernel
theorem dX8_curve_85 : decode cX8_curve 85 = .ok (.iconst 0, 1) := by decide +kernel
theorem dX8_curve_86 : decode cX8_curve 86 = .ok (.iconst 0, 1) := by decide +kernel
theorem dX8_curve_87 : decode cX8_curve 87 = .ok (.invokevirtual 232, 3) := by decide +kernel
theorem dX8_curve_90 : decode cX8_curve 90 = .ok (.ifCond .ne 5, 3) := by decide +kernel
theorem dX8_curve_93 : decode cX8_curve 93 = .ok (.iconst 0, 1) := by decide +kernel
theorem dX8_curve_94 : decode cX8_curve 94 = .ok (.ireturn, 1) := by decide +kernel
theorem dX8_curve_95 : decode cX8_curve 95 = .ok (.aload_n 0, 1) := by decide +kernel
theorem dX8_curve_96 : decode cX8_curve 96 = .ok (.getfield 223, 3) := by decide +kernel
theorem dX8_curve_99 : decode cX8_curve 99 = .ok (.istore_n 2, 1) := by decide +kernel
theorem dX8_curve_100 : decode cX8_curve 100 = .ok (.aload_n 0, 1) := by decide +kernel
theorem dX8_curve_101 : decode cX8_curve 101 = .ok (.getfield 226, 3) := by decide +kernel
theorem dX8_curve_104 : decode cX8_curve 104 = .ok (.istore_n 3, 1) := by decide +kernel
theorem dX8_curve_105 : decode cX8_curve 105 = .ok (.aload_n 0, 1) := by decide +kernel
theorem dX8_curve_106 : decode cX8_curve 106 = .ok (.bipush 32, 2) := by decide +kernel
theorem dX8_curve_108 : decode cX8_curve 108 = .ok (.invokevirtual 210, 3) := by decide +kernel
theorem dX8_curve_111 : decode cX8_curve 111 = .ok (.ifCond .eq 12, 3) := by decide +kernel
theorem dX8_curve_114 : decode cX8_curve 114 = .ok (.aload_n 0, 1) := by decide +kernel
theorem dX8_curve_115 : decode cX8_curve 115 = .ok (.iload_n 2, 1) := by decide +kernel
theorem dX8_curve_116 : decode cX8_curve 116 = .ok (.iload_n 3, 1) := by decide +kernel
theorem dX8_curve_117 : decode cX8_curve 117 = .ok (.invokevirtual 232, 3) := by decide +kernel
theorem dX8_curve_120 : decode cX8_curve 120 = .ok (.ifCond .ne 5, 3) := by decide +kernel
theorem dX8_curve_123 : decode cX8_curve 123 = .ok (.iconst 0, 1) := by decide +kernel
theorem dX8_curve_124 : decode cX8_curve 124 = .ok (.ireturn, 1) := by decide +kernel
theorem dX8_curve_125 : decode cX8_curve 125 = .ok (.aload_n 0, 1) := by decide +kernel
theorem dX8_curve_126 : decode cX8_curve 126 = .ok (.aload_n 0, 1) := by decide +kernel
theorem dX8_curve_127 : decode cX8_curve 127 = .ok (.getfield 223, 3) := by decide +kernel
theorem dX8_curve_130 : decode cX8_curve 130 = .ok (.aload_n 0, 1) := by decide +kernel
theorem dX8_curve_131 : decode cX8_curve 131 = .ok (.getfield 226, 3) := by decide +kernel
theorem dX8_curve_134 : decode cX8_curve 134 = .ok (.invokevirtual 235, 3) := by decide +kernel
theorem dX8_curve_137 : decode cX8_curve 137 = .ok (.aload_n 0, 1) := by decide +kernel
theorem dX8_curve_138 : decode cX8_curve 138 = .ok (.getfield 41, 3) := by decide +kernel
theorem dX8_curve_141 : decode cX8_curve 141 = .ok (.bipush 8, 2) := by decide +kernel
theorem dX8_curve_143 : decode cX8_curve 143 = .ok (.aload_n 0, 1) := by decide +kernel
theorem dX8_curve_144 : decode cX8_curve 144 = .ok (.getfield 229, 3) := by decide +kernel
theorem dX8_curve_147 : decode cX8_curve 147 = .ok (.iconst 1, 1) := by decide +kernel
theorem dX8_curve_148 : decode cX8_curve 148 = .ok (.isub, 1) := by decide +kernel
theorem dX8_curve_149 : decode cX8_curve 149 = .ok (.imul, 1) := by decide +kernel
theorem dX8_curve_150 : decode cX8_curve 150 = .ok (.iconst 2, 1) := by decide +kernel
theorem dX8_curve_151 : decode cX8_curve 151 = .ok (.iadd, 1) := by decide +kernel
theorem dX8_curve_152 : decode cX8_curve 152 = .ok (.iload_n 2, 1) := by decide +kernel
theorem dX8_curve_153 : decode cX8_curve 153 = .ok (.aload_n 0, 1) := by decide +kernel
theorem dX8_curve_154 : decode cX8_curve 154 = .ok (.getfield 223, 3) := by decide +kernel
theorem dX8_curve_157 : decode cX8_curve 157 = .ok (.isub, 1) := by decide +kernel
theorem dX8_curve_158 : decode cX8_curve 158 = .ok (.iastore, 1) := by decide +kernel
theorem dX8_curve_159 : decode cX8_curve 159 = .ok (.aload_n 0, 1) := by decide +kernel
theorem dX8_curve_160 : decode cX8_curve 160 = .ok (.getfield 41, 3) := by decide +kernel
theorem dX8_curve_163 : decode cX8_curve 163 = .ok (.bipush 8, 2) := by decide +kernel
theorem dX8_curve_165 : decode cX8_curve 165 = .ok (.aload_n 0, 1) := by decide +kernel
theorem dX8_curve_166 : decode cX8_curve 166 = .ok (.getfield 229, 3) := by decide +kernel
theorem dX8_curve_169 : decode cX8_curve 169 = .ok (.iconst 1, 1) := by decide +kernel
theorem dX8_curve_170 : decode cX8_curve 170 = .ok (.isub, 1) := by decide +kernel
theorem dX8_curve_171 : decode cX8_curve 171 = .ok (.imul, 1) := by decide +kernel
theorem dX8_curve_172 : decode cX8_curve 172 = .ok (.iconst 2, 1) := by decide +kernel
theorem dX8_curve_173 : decode cX8_curve 173 = .ok (.iadd, 1) := by decide +kernel
theorem dX8_curve_174 : decode cX8_curve 174 = .ok (.iconst 1, 1) := by decide +kernel
theorem dX8_curve_175 : decode cX8_curve 175 = .ok (.iadd, 1) := by decide +kernel
theorem dX8_curve_176 : decode cX8_curve 176 = .ok (.iload_n 3, 1) := by decide +kernel
theorem dX8_curve_177 : decode cX8_curve 177 = .ok (.aload_n 0, 1) := by decide +kernel
theorem dX8_curve_178 : decode cX8_curve 178 = .ok (.getfield 226, 3) := by decide +kernel
theorem dX8_curve_181 : decode cX8_curve 181 = .ok (.isub, 1) := by decide +kernel
theorem dX8_curve_182 : decode cX8_curve 182 = .ok (.iastore, 1) := by decide +kernel
theorem dX8_curve_183 : decode cX8_curve 183 = .ok (.iconst 1, 1) := by decide +kernel
theorem dX8_curve_184 : decode cX8_curve 184 = .ok (.ireturn, 1) := by decide +kernel
theorem dX8_isNext_0 : decode cX8_isNext 0 = .ok (.aload_n 0, 1) := by decide +kernel
theorem dX8_isNext_1 : decode cX8_isNext 1 = .ok (.invokevirtual 206, 3) := by decide +kernel
theorem dX8_isNext_4 : decode cX8_isNext 4 = .ok (.istore_n 1, 1) := by decide +kernel
theorem dX8_isNext_5 : decode cX8_isNext 5 = .ok (.iload_n 1, 1) := by decide +kernel
theorem dX8_isNext_6 : decode cX8_isNext 6 = .ok (.bipush 76, 2) := by decide +kernel
theorem dX8_isNext_8 : decode cX8_isNext 8 = .ok (.if_icmp .eq 9, 3) := by decide +kernel
theorem dX8_isNext_11 : decode cX8_isNext 11 = .ok (.iload_n 1, 1) := by decide +kernel
theorem dX8_isNext_12 : decode cX8_isNext 12 = .ok (.bipush 67, 2) := by decide +kernel
theorem dX8_isNext_14 : decode cX8_isNext 14 = .ok (.if_icmp .ne 16, 3) := by decide +kernel
theorem dX8_isNext_17 : decode cX8_isNext 17 = .ok (.aload_n 0, 1) := by decide +kernel
theorem dX8_isNext_18 : decode cX8_isNext 18 = .ok (.getfield 229, 3) := by decide +kernel
theorem dX8_isNext_21 : decode cX8_isNext 21 = .ok (.bipush 12, 2) := by decide +kernel
theorem dX8_isNext_23 : decode cX8_isNext 23 = .ok (.if_icmp .ge 7, 3) := by decide +kernel
theorem dX8_isNext_26 : decode cX8_isNext 26 = .ok (.iconst 1, 1) := by decide +kernel
theorem dX8_isNext_27 : decode cX8_isNext 27 = .ok (.goto 4, 3) := by decide +kernel
theorem dX8_isNext_30 : decode cX8_isNext 30 = .ok (.iconst 0, 1) := by decide +kernel
theorem dX8_isNext_31 : decode cX8_isNext 31 = .ok (.istore_n 2, 1) := by decide +kernel
theorem dX8_isNext_32 : decode cX8_isNext 32 = .ok (.iload_n 2, 1) := by decide +kernel
theorem dX8_isNext_33 : decode cX8_isNext 33 = .ok (.ifCond .ne 19, 3) := by decide +kernel
theorem dX8_isNext_36 : decode cX8_isNext 36 = .ok (.iload_n 1, 1) := by decide +kernel
theorem dX8_isNext_37 : decode cX8_isNext 37 = .ok (.bipush 90, 2) := by decide +kernel
theorem dX8_isNext_39 : decode cX8_isNext 39 = .ok (.if_icmp .ne 11, 3) := by decide +kernel
theorem dX8_isNext_42 : decode cX8_isNext 42 = .ok (.aload_n 0, 1) := by decide +kernel
theorem dX8_isNext_43 : decode cX8_isNext 43 = .ok (.getfield 229, 3) := by decide +kernel
theorem dX8_isNext_46 : decode cX8_isNext 46 = .ok (.iconst 2, 1) := by decide +kernel
theorem dX8_isNext_47 : decode cX8_isNext 47 = .ok (.if_icmp .ge 5, 3) := by decide +kernel
theorem dX8_isNext_50 : decode cX8_isNext 50 = .ok (.iconst 0, 1) := by decide +kernel
theorem dX8_isNext_51 : decode cX8_isNext 51 = .ok (.ireturn, 1) := by decide +kernel
theorem dX8_isNext_52 : decode cX8_isNext 52 = .ok (.aload_n 0, 1) := by decide +kernel
theorem dX8_isNext_53 : decode cX8_isNext 53 = .ok (.dup, 1) := by decide +kernel
theorem dX8_isNext_54 : decode cX8_isNext 54 = .ok (.getfield 203, 3) := by decide +kernel
theorem dX8_isNext_57 : decode cX8_isNext 57 = .ok (.iconst 1, 1) := by decide +kernel
theorem dX8_isNext_58 : decode cX8_isNext 58 = .ok (.iadd, 1) := by decide +kernel
theorem dX8_isNext_59 : decode cX8_isNext 59 = .ok (.putfield 203, 3) := by decide +kernel
theorem dX8_isNext_62 : decode cX8_isNext 62 = .ok (.iload_n 1, 1) := by decide +kernel
theorem dX8_isNext_63 : decode cX8_isNext 63 = .ok (.bipush 90, 2) := by decide +kernel
theorem dX8_isNext_65 : decode cX8_isNext 65 = .ok (.if_icmp .ne 10, 3) := by decide +kernel
theorem dX8_isNext_68 : decode cX8_isNext 68 = .ok (.aload_n 0, 1) := by decide +kernel
theorem dX8_isNext_69 : decode cX8_isNext 69 = .ok (.iconst 1, 1) := by decide +kernel
theorem dX8_isNext_70 : decode cX8_isNext 70 = .ok (.putfield 238, 3) := by decide +kernel
theorem dX8_isNext_73 : decode cX8_isNext 73 = .ok (.iconst 1, 1) := by decide +kernel
theorem dX8_isNext_74 : decode cX8_isNext 74 = .ok (.ireturn, 1) := by decide +kernel
theorem dX8_isNext_75 : decode cX8_isNext 75 = .ok (.iload_n 1, 1) := by decide +kernel
theorem dX8_isNext_76 : decode cX8_isNext 76 = .ok (.bipush 67, 2) := by decide +kernel
theorem dX8_isNext_78 : decode cX8_isNext 78 = .ok (.if_icmp .ne 8, 3) := by decide +kernel
theorem dX8_isNext_81 : decode cX8_isNext 81 = .ok (.aload_n 0, 1) := by decide +kernel
theorem dX8_isNext_82 : decode cX8_isNext 82 = .ok (.invokevirtual 242, 3) := by decide +kernel
theorem dX8_isNext_85 : decode cX8_isNext 85 = .ok (.ireturn, 1) := by decide +kernel
theorem dX8_isNext_86 : decode cX8_isNext 86 = .ok (.aload_n 0, 1) := by decide +kernel
theorem dX8_isNext_87 : decode cX8_isNext 87 = .ok (.iconst 0, 1) := by decide +kernel
theorem dX8_isNext_88 : decode cX8_isNext 88 = .ok (.iconst 0, 1) := by decide +kernel
theorem dX8_isNext_89 : decode cX8_isNext 89 = .ok (.invokevirtual 232, 3) := by decide +kernel
theorem dX8_isNext_92 : decode cX8_isNext 92 = .ok (.istore_n 3, 1) := by decide +kernel
theorem dX8_isNext_93 : decode cX8_isNext 93 = .ok (.iload_n 3, 1) := by decide +kernel
theorem dX8_isNext_94 : decode cX8_isNext 94 = .ok (.ifCond .eq 15, 3) := by decide +kernel
theorem dX8_isNext_97 : decode cX8_isNext 97 = .ok (.aload_n 0, 1) := by decide +kernel
theorem dX8_isNext_98 : decode cX8_isNext 98 = .ok (.aload_n 0, 1) := by decide +kernel
theorem dX8_isNext_99 : decode cX8_isNext 99 = .ok (.getfield 223, 3) := by decide +kernel
theorem dX8_isNext_102 : decode cX8_isNext 102 = .ok (.aload_n 0, 1) := by decide +kernel
theorem dX8_isNext_103 : decode cX8_isNext 103 = .ok (.getfield 226, 3) := by decide +kernel
theorem dX8_isNext_106 : decode cX8_isNext 106 = .ok (.invokevirtual 235, 3) := by decide +kernel
theorem dX8_isNext_109 : decode cX8_isNext 109 = .ok (.iload_n 3, 1) := by decide +kernel
theorem dX8_isNext_110 : decode cX8_isNext 110 = .ok (.ireturn, 1) := by decide +kernel
theorem dX8_isText_0 : decode cX8_isText 0 = .ok (.aload_n 0, 1) := by decide +kernel
theorem dX8_isText_1 : decode cX8_isText 1 = .ok (.iconst 0, 1) := by decide +kernel
theorem dX8_isText_2 : decode cX8_isText 2 = .ok (.putfield 203, 3) := by decide +kernel
theorem dX8_isText_5 : decode cX8_isText 5 = .ok (.aload_n 0, 1) := by decide +kernel
theorem dX8_isText_6 : decode cX8_isText 6 = .ok (.iconst 0, 1) := by decide +kernel
theorem dX8_isText_7 : decode cX8_isText 7 = .ok (.putfield 229, 3) := by decide +kernel
theorem dX8_isText_10 : decode cX8_isText 10 = .ok (.aload_n 0, 1) := by decide +kernel
theorem dX8_isText_11 : decode cX8_isText 11 = .ok (.iconst 0, 1) := by decide +kernel
theorem dX8_isText_12 : decode cX8_isText 12 = .ok (.putfield 238, 3) := by decide +kernel
theorem dX8_isText_15 : decode cX8_isText 15 = .ok (.aload_n 0, 1) := by decide +kernel
theorem dX8_isText_16 : decode cX8_isText 16 = .ok (.bipush 77, 2) := by decide +kernel
theorem dX8_isText_18 : decode cX8_isText 18 = .ok (.invokevirtual 210, 3) := by decide +kernel
theorem dX8_isText_21 : decode cX8_isText 21 = .ok (.ifCond .eq 12, 3) := by decide +kernel
theorem dX8_isText_24 : decode cX8_isText 24 = .ok (.aload_n 0, 1) := by decide +kernel
theorem dX8_isText_25 : decode cX8_isText 25 = .ok (.iconst 0, 1) := by decide +kernel
theorem dX8_isText_26 : decode cX8_isText 26 = .ok (.iconst 0, 1) := by decide +kernel
theorem dX8_isText_27 : decode cX8_isText 27 = .ok (.invokevirtual 232, 3) := by decide +kernel
theorem dX8_isText_30 : decode cX8_isText 30 = .ok (.ifCond .ne 5, 3) := by decide +kernel
theorem dX8_isText_33 : decode cX8_isText 33 = .ok (.iconst 0, 1) := by decide +kernel
theorem dX8_isText_34 : decode cX8_isText 34 = .ok (.ireturn, 1) := by decide +kernel
theorem dX8_isText_35 : decode cX8_isText 35 = .ok (.aload_n 0, 1) := by decide +kernel
theorem dX8_isText_36 : decode cX8_isText 36 = .ok (.aload_n 0, 1) := by decide +kernel
theorem dX8_isText_37 : decode cX8_isText 37 = .ok (.getfield 223, 3) := by decide +kernel
theorem dX8_isText_40 : decode cX8_isText 40 = .ok (.aload_n 0, 1) := by decide +kernel
theorem dX8_isText_41 : decode cX8_isText 41 = .ok (.getfield 226, 3) := by decide +kernel
theorem dX8_isText_44 : decode cX8_isText 44 = .ok (.invokevirtual 235, 3) := by decide +kernel
theorem dX8_isText_47 : decode cX8_isText 47 = .ok (.iconst 1, 1) := by decide +kernel
theorem dX8_isText_48 : decode cX8_isText 48 = .ok (.istore_n 1, 1) := by decide +kernel
theorem dX8_isText_49 : decode cX8_isText 49 = .ok (.iload_n 1, 1) := by decide +kernel
theorem dX8_isText_50 : decode cX8_isText 50 = .ok (.ifCond .eq 37, 3) := by decide +kernel
theorem dX8_isText_53 : decode cX8_isText 53 = .ok (.aload_n 0, 1) := by decide +kernel
theorem dX8_isText_54 : decode cX8_isText 54 = .ok (.getfield 203, 3) := by decide +kernel
theorem dX8_isText_57 : decode cX8_isText 57 = .ok (.aload_n 0, 1) := by decide +kernel
theorem dX8_isText_58 : decode cX8_isText 58 = .ok (.getfield 200, 3) := by decide +kernel
theorem dX8_isText_61 : decode cX8_isText 61 = .ok (.if_icmp .ge 26, 3) := by decide +kernel
theorem dX8_isText_64 : decode cX8_isText 64 = .ok (.aload_n 0, 1) := by decide +kernel
theorem dX8_isText_65 : decode cX8_isText 65 = .ok (.getfield 238, 3) := by decide +kernel
theorem dX8_isText_68 : decode cX8_isText 68 = .ok (.ifCond .ne 14, 3) := by decide +kernel
theorem dX8_isText_71 : decode cX8_isText 71 = .ok (.aload_n 0, 1) := by decide +kernel
theorem dX8_isText_72 : decode cX8_isText 72 = .ok (.invokevirtual 245, 3) := by decide +kernel
theorem dX8_isText_75 : decode cX8_isText 75 = .ok (.ifCond .eq 7, 3) := by decide +kernel
theorem dX8_isText_78 : decode cX8_isText 78 = .ok (.iconst 1, 1) := by decide +kernel
theorem dX8_isText_79 : decode cX8_isText 79 = .ok (.goto 4, 3) := by decide +kernel
theorem dX8_isText_82 : decode cX8_isText 82 = .ok (.iconst 0, 1) := by decide +kernel
theorem dX8_isText_83 : decode cX8_isText 83 = .ok (.istore_n 1, 1) := by decide +kernel
theorem dX8_isText_84 : decode cX8_isText 84 = .ok (.goto (-35), 3) := by decide +kernel
theorem dX8_isText_87 : decode cX8_isText 87 = .ok (.iload_n 1, 1) := by decide +kernel
theorem dX8_isText_88 : decode cX8_isText 88 = .ok (.ireturn, 1) := by decide +kernel
theorem dX8_faultPosition_0 : decode cX8_faultPosition 0 = .ok (.aload_n 0, 1) := by decide +kernel
theorem dX8_faultPosition_1 : decode cX8_faultPosition 1 = .ok (.invokevirtual 248, 3) := by decide +kernel
theorem dX8_faultPosition_4 : decode cX8_faultPosition 4 = .ok (.ifCond .eq 8, 3) := by decide +kernel
theorem dX8_faultPosition_7 : decode cX8_faultPosition 7 = .ok (.ldc 184, 2) := by decide +kernel
theorem dX8_faultPosition_9 : decode cX8_faultPosition 9 = .ok (.goto 7, 3) := by decide +kernel
theorem dX8_faultPosition_12 : decode cX8_faultPosition 12 = .ok (.aload_n 0, 1) := by decide +kernel
theorem dX8_faultPosition_13 : decode cX8_faultPosition 13 = .ok (.getfield 203, 3) := by decide +kernel
theorem dX8_faultPosition_16 : decode cX8_faultPosition 16 = .ok (.ireturn, 1) := by decide +kernel
theorem dX8_read_0 : decode cX8_read 0 = .ok (.aload_n 0, 1) := by decide +kernel
theorem dX8_read_1 : decode cX8_read 1 = .ok (.invokevirtual 248, 3) := by decide +kernel
theorem dX8_read_4 : decode cX8_read 4 = .ok (.ifCond .ne 6, 3) := by decide +kernel
theorem dX8_read_7 : decode cX8_read 7 = .ok (.ldc 122, 2) := by decide +kernel
theorem dX8_read_9 : decode cX8_read 9 = .ok (.ireturn, 1) := by decide +kernel
theorem dX8_read_10 : decode cX8_read 10 = .ok (.aload_n 0, 1) := by decide +kernel
theorem dX8_read_11 : decode cX8_read 11 = .ok (.getfield 7, 3) := by decide +kernel
theorem dX8_read_14 : decode cX8_read 14 = .ok (.iconst 0, 1) := by decide +kernel
theorem dX8_read_15 : decode cX8_read 15 = .ok (.iaload, 1) := by decide +kernel
theorem dX8_read_16 : decode cX8_read 16 = .ok (.bipush 6, 2) := by decide +kernel
theorem dX8_read_18 : decode cX8_read 18 = .ok (.if_icmp .ne 6, 3) := by decide +kernel
theorem dX8_read_21 : decode cX8_read 21 = .ok (.ldc 109, 2) := by decide +kernel
theorem dX8_read_23 : decode cX8_read 23 = .ok (.ireturn, 1) := by decide +kernel
theorem dX8_read_24 : decode cX8_read 24 = .ok (.aload_n 0, 1) := by decide +kernel
theorem dX8_read_25 : decode cX8_read 25 = .ok (.invokevirtual 110, 3) := by decide +kernel
theorem dX8_read_28 : decode cX8_read 28 = .ok (.aload_n 0, 1) := by decide +kernel
theorem dX8_read_29 : decode cX8_read 29 = .ok (.getfield 7, 3) := by decide +kernel
theorem dX8_read_32 : decode cX8_read 32 = .ok (.iconst 0, 1) := by decide +kernel
theorem dX8_read_33 : decode cX8_read 33 = .ok (.iaload, 1) := by decide +kernel
theorem dX8_read_34 : decode cX8_read 34 = .ok (.istore_n 1, 1) := by decide +kernel
theorem dX8_read_35 : decode cX8_read 35 = .ok (.aload_n 0, 1) := by decide +kernel
theorem dX8_read_36 : decode cX8_read 36 = .ok (.getfield 7, 3) := by decide +kernel
theorem dX8_read_39 : decode cX8_read 39 = .ok (.iconst 0, 1) := by decide +kernel
theorem dX8_read_40 : decode cX8_read 40 = .ok (.dup2, 1) := by decide +kernel
theorem dX8_read_41 : decode cX8_read 41 = .ok (.iaload, 1) := by decide +kernel
theorem dX8_read_42 : decode cX8_read 42 = .ok (.iconst 1, 1) := by decide +kernel
theorem dX8_read_43 : decode cX8_read 43 = .ok (.iadd, 1) := by decide +kernel
theorem dX8_read_44 : decode cX8_read 44 = .ok (.iastore, 1) := by decide +kernel
theorem dX8_read_45 : decode cX8_read 45 = .ok (.aload_n 0, 1) := by decide +kernel
theorem dX8_read_46 : decode cX8_read 46 = .ok (.getfield 7, 3) := by decide +kernel
theorem dX8_read_49 : decode cX8_read 49 = .ok (.iload_n 1, 1) := by decide +kernel
theorem dX8_read_50 : decode cX8_read 50 = .ok (.invokestatic 51, 3) := by decide +kernel
theorem dX8_read_53 : decode cX8_read 53 = .ok (.aload_n 0, 1) := by decide +kernel
theorem dX8_read_54 : decode cX8_read 54 = .ok (.getfield 229, 3) := by decide +kernel
theorem dX8_read_57 : decode cX8_read 57 = .ok (.iastore, 1) := by decide +kernel
theorem dX8_read_58 : decode cX8_read 58 = .ok (.aload_n 0, 1) := by decide +kernel
theorem dX8_read_59 : decode cX8_read 59 = .ok (.getfield 7, 3) := by decide +kernel
theorem dX8_read_62 : decode cX8_read 62 = .ok (.iload_n 1, 1) := by decide +kernel
theorem dX8_read_63 : decode cX8_read 63 = .ok (.invokestatic 51, 3) := by decide +kernel
theorem dX8_read_66 : decode cX8_read 66 = .ok (.iconst 1, 1) := by decide +kernel
theorem dX8_read_67 : decode cX8_read 67 = .ok (.iadd, 1) := by decide +kernel
theorem dX8_read_68 : decode cX8_read 68 = .ok (.aload_n 0, 1) := by decide +kernel
theorem dX8_read_69 : decode cX8_read 69 = .ok (.getfield 238, 3) := by decide +kernel
theorem dX8_read_72 : decode cX8_read 72 = .ok (.ifCond .eq 7, 3) := by decide +kernel
theorem dX8_read_75 : decode cX8_read 75 = .ok (.iconst 1, 1) := by decide +kernel
theorem dX8_read_76 : decode cX8_read 76 = .ok (.goto 4, 3) := by decide +kernel
theorem dX8_read_79 : decode cX8_read 79 = .ok (.iconst 0, 1) := by decide +kernel
theorem dX8_read_80 : decode cX8_read 80 = .ok (.iastore, 1) := by decide +kernel
theorem dX8_read_81 : decode cX8_read 81 = .ok (.iconst 0, 1) := by decide +kernel
theorem dX8_read_82 : decode cX8_read 82 = .ok (.istore_n 2, 1) := by decide +kernel
theorem dX8_read_83 : decode cX8_read 83 = .ok (.iload_n 2, 1) := by decide +kernel
theorem dX8_read_84 : decode cX8_read 84 = .ok (.bipush 8, 2) := by decide +kernel
theorem dX8_read_86 : decode cX8_read 86 = .ok (.aload_n 0, 1) := by decide +kernel
theorem dX8_read_87 : decode cX8_read 87 = .ok (.getfield 229, 3) := by decide +kernel
theorem dX8_read_90 : decode cX8_read 90 = .ok (.imul, 1) := by decide +kernel
theorem dX8_read_91 : decode cX8_read 91 = .ok (.if_icmp .ge 42, 3) := by decide +kernel
theorem dX8_read_94 : decode cX8_read 94 = .ok (.aload_n 0, 1) := by decide +kernel
theorem dX8_read_95 : decode cX8_read 95 = .ok (.getfield 7, 3) := by decide +kernel
theorem dX8_read_98 : decode cX8_read 98 = .ok (.iload_n 1, 1) := by decide +kernel
theorem dX8_read_99 : decode cX8_read 99 = .ok (.iconst 0, 1) := by decide +kernel
theorem dX8_read_100 : decode cX8_read 100 = .ok (.iload_n 2, 1) := by decide +kernel
theorem dX8_read_101 : decode cX8_read 101 = .ok (.invokestatic 92, 3) := by decide +kernel
theorem dX8_read_104 : decode cX8_read 104 = .ok (.aload_n 0, 1) := by decide +kernel
theorem dX8_read_105 : decode cX8_read 105 = .ok (.getfield 41, 3) := by decide +kernel
theorem dX8_read_108 : decode cX8_read 108 = .ok (.iload_n 2, 1) := by decide +kernel
theorem dX8_read_109 : decode cX8_read 109 = .ok (.iaload, 1) := by decide +kernel
theorem dX8_read_110 : decode cX8_read 110 = .ok (.iload_n 2, 1) := by decide +kernel
theorem dX8_read_111 : decode cX8_read 111 = .ok (.bipush 8, 2) := by decide +kernel
theorem dX8_read_113 : decode cX8_read 113 = .ok (.irem, 1) := by decide +kernel
theorem dX8_read_114 : decode cX8_read 114 = .ok (.bipush 6, 2) := by decide +kernel
theorem dX8_read_116 : decode cX8_read 116 = .ok (.if_icmp .ge 8, 3) := by decide +kernel
theorem dX8_read_119 : decode cX8_read 119 = .ok (.ldc 113, 2) := by decide +kernel
theorem dX8_read_121 : decode cX8_read 121 = .ok (.goto 4, 3) := by decide +kernel
theorem dX8_read_124 : decode cX8_read 124 = .ok (.iconst 1, 1) := by decide +kernel
theorem dX8_read_125 : decode cX8_read 125 = .ok (.imul, 1) := by decide +kernel
theorem dX8_read_126 : decode cX8_read 126 = .ok (.iastore, 1) := by decide +kernel
theorem dX8_read_127 : decode cX8_read 127 = .ok (.iinc 2 1, 3) := by decide +kernel
theorem dX8_read_130 : decode cX8_read 130 = .ok (.goto (-47), 3) := by decide +kernel
theorem dX8_read_133 : decode cX8_read 133 = .ok (.aload_n 0, 1) := by decide +kernel
theorem dX8_read_134 : decode cX8_read 134 = .ok (.iload_n 1, 1) := by decide +kernel
theorem dX8_read_135 : decode cX8_read 135 = .ok (.invokevirtual 118, 3) := by decide +kernel
theorem dX8_read_138 : decode cX8_read 138 = .ok (.ireturn, 1) := by decide +kernel
theorem dX8_sign_0 : decode cX8_sign 0 = .ok (.aload_n 0, 1) := by decide +kernel
theorem dX8_sign_1 : decode cX8_sign 1 = .ok (.getfield 44, 3) := by decide +kernel
theorem dX8_sign_4 : decode cX8_sign 4 = .ok (.aload_n 0, 1) := by decide +kernel
theorem dX8_sign_5 : decode cX8_sign 5 = .ok (.getfield 251, 3) := by decide +kernel
theorem dX8_sign_8 : decode cX8_sign 8 = .ok (.iload_n 1, 1) := by decide +kernel
theorem dX8_sign_9 : decode cX8_sign 9 = .ok (.iastore, 1) := by decide +kernel
theorem dX8_sign_10 : decode cX8_sign 10 = .ok (.aload_n 0, 1) := by decide +kernel
theorem dX8_sign_11 : decode cX8_sign 11 = .ok (.dup, 1) := by decide +kernel
theorem dX8_sign_12 : decode cX8_sign 12 = .ok (.getfield 251, 3) := by decide +kernel
theorem dX8_sign_15 : decode cX8_sign 15 = .ok (.iconst 1, 1) := by decide +kernel
theorem dX8_sign_16 : decode cX8_sign 16 = .ok (.iadd, 1) := by decide +kernel
theorem dX8_sign_17 : decode cX8_sign 17 = .ok (.putfield 251, 3) := by decide +kernel
theorem dX8_sign_20 : decode cX8_sign 20 = .ok (.return_, 1) := by decide +kernel
theorem dX8_writes_0 : decode cX8_writes 0 = .ok (.aload_n 0, 1) := by decide +kernel
theorem dX8_writes_1 : decode cX8_writes 1 = .ok (.aload_n 0, 1) := by decide +kernel
theorem dX8_writes_2 : decode cX8_writes 2 = .ok (.getfield 254, 3) := by decide +kernel
theorem dX8_writes_5 : decode cX8_writes 5 = .ok (.ifCond .eq 14, 3) := by decide +kernel
theorem dX8_writes_8 : decode cX8_writes 8 = .ok (.iload_n 1, 1) := by decide +kernel
theorem dX8_writes_9 : decode cX8_writes 9 = .ok (.ldc 113, 2) := by decide +kernel
theorem dX8_writes_11 : decode cX8_writes 11 = .ok (.irem, 1) := by decide +kernel
theorem dX8_writes_12 : decode cX8_writes 12 = .ok (.ifCond .ne 7, 3) := by decide +kernel
theorem dX8_writes_15 : decode cX8_writes 15 = .ok (.iconst 1, 1) := by decide +kernel
theorem dX8_writes_16 : decode cX8_writes 16 = .ok (.goto 4, 3) := by decide +kernel
theorem dX8_writes_19 : decode cX8_writes 19 = .ok (.iconst 0, 1) := by decide +kernel
theorem dX8_writes_20 : decode cX8_writes 20 = .ok (.putfield 254, 3) := by decide +kernel
theorem dX8_writes_23 : decode cX8_writes 23 = .ok (.iload_n 1, 1) := by decide +kernel
theorem dX8_writes_24 : decode cX8_writes 24 = .ok (.ldc 113, 2) := by decide +kernel
theorem dX8_writes_26 : decode cX8_writes 26 = .ok (.idiv, 1) := by decide +kernel
theorem dX8_writes_27 : decode cX8_writes 27 = .ok (.istore_n 2, 1) := by decide +kernel
theorem dX8_writes_28 : decode cX8_writes 28 = .ok (.iload_n 2, 1) := by decide +kernel
theorem dX8_writes_29 : decode cX8_writes 29 = .ok (.ifCond .ge 12, 3) := by decide +kernel
theorem dX8_writes_32 : decode cX8_writes 32 = .ok (.aload_n 0, 1) := by decide +kernel
theorem dX8_writes_33 : decode cX8_writes 33 = .ok (.bipush 45, 2) := by decide +kernel
theorem dX8_writes_35 : decode cX8_writes 35 = .ok (.invokevirtual 257, 3) := by decide +kernel
theorem dX8_writes_38 : decode cX8_writes 38 = .ok (.iload_n 2, 1) := by decide +kernel
theorem dX8_writes_39 : decode cX8_writes 39 = .ok (.ineg, 1) := by decide +kernel
theorem dX8_writes_40 : decode cX8_writes 40 = .ok (.istore_n 2, 1) := by decide +kernel
theorem dX8_writes_41 : decode cX8_writes 41 = .ok (.iload_n 2, 1) := by decide +kernel
theorem dX8_writes_42 : decode cX8_writes 42 = .ok (.bipush 99, 2) := by decide +kernel
theorem dX8_writes_44 : decode cX8_writes 44 = .ok (.if_icmp .le 14, 3) := by decide +kernel
theorem dX8_writes_47 : decode cX8_writes 47 = .ok (.aload_n 0, 1) := by decide +kernel
theorem dX8_writes_48 : decode cX8_writes 48 = .ok (.bipush 48, 2) := by decide +kernel
theorem dX8_writes_50 : decode cX8_writes 50 = .ok (.iload_n 2, 1) := by decide +kernel
theorem dX8_writes_51 : decode cX8_writes 51 = .ok (.bipush 100, 2) := by decide +kernel
theorem dX8_writes_53 : decode cX8_writes 53 = .ok (.idiv, 1) := by decide +kernel
theorem dX8_writes_54 : decode cX8_writes 54 = .ok (.iadd, 1) := by decide +kernel
theorem dX8_writes_55 : decode cX8_writes 55 = .ok (.invokevirtual 257, 3) := by decide +kernel
theorem dX8_writes_58 : decode cX8_writes 58 = .ok (.iload_n 2, 1) := by decide +kernel
theorem dX8_writes_59 : decode cX8_writes 59 = .ok (.bipush 9, 2) := by decide +kernel
theorem dX8_writes_61 : decode cX8_writes 61 = .ok (.if_icmp .le 17, 3) := by decide +kernel
theorem dX8_writes_64 : decode cX8_writes 64 = .ok (.aload_n 0, 1) := by decide +kernel
theorem dX8_writes_65 : decode cX8_writes 65 = .ok (.bipush 48, 2) := by decide +kernel
theorem dX8_writes_67 : decode cX8_writes 67 = .ok (.iload_n 2, 1) := by decide +kernel
theorem dX8_writes_68 : decode cX8_writes 68 = .ok (.bipush 10, 2) := by decide +kernel
theorem dX8_writes_70 : decode cX8_writes 70 = .ok (.idiv, 1) := by decide +kernel
theorem dX8_writes_71 : decode cX8_writes 71 = .ok (.bipush 10, 2) := by decide +kernel
theorem dX8_writes_73 : decode cX8_writes 73 = .ok (.irem, 1) := by decide +kernel
theorem dX8_writes_74 : decode cX8_writes 74 = .ok (.iadd, 1) := by decide +kernel
theorem dX8_writes_75 : decode cX8_writes 75 = .ok (.invokevirtual 257, 3) := by decide +kernel
theorem dX8_writes_78 : decode cX8_writes 78 = .ok (.aload_n 0, 1) := by decide +kernel
theorem dX8_writes_79 : decode cX8_writes 79 = .ok (.bipush 48, 2) := by decide +kernel
theorem dX8_writes_81 : decode cX8_writes 81 = .ok (.iload_n 2, 1) := by decide +kernel
theorem dX8_writes_82 : decode cX8_writes 82 = .ok (.bipush 10, 2) := by decide +kernel
theorem dX8_writes_84 : decode cX8_writes 84 = .ok (.irem, 1) := by decide +kernel
theorem dX8_writes_85 : decode cX8_writes 85 = .ok (.iadd, 1) := by decide +kernel
theorem dX8_writes_86 : decode cX8_writes 86 = .ok (.invokevirtual 257, 3) := by decide +kernel
theorem dX8_writes_89 : decode cX8_writes 89 = .ok (.return_, 1) := by decide +kernel
theorem dX8_writesPoint_0 : decode cX8_writesPoint 0 = .ok (.aload_n 0, 1) := by decide +kernel
theorem dX8_writesPoint_1 : decode cX8_writesPoint 1 = .ok (.aload_n 0, 1) := by decide +kernel
theorem dX8_writesPoint_2 : decode cX8_writesPoint 2 = .ok (.getfield 35, 3) := by decide +kernel
theorem dX8_writesPoint_5 : decode cX8_writesPoint 5 = .ok (.iload_n 1, 1) := by decide +kernel
theorem dX8_writesPoint_6 : decode cX8_writesPoint 6 = .ok (.iaload, 1) := by decide +kernel
theorem dX8_writesPoint_7 : decode cX8_writesPoint 7 = .ok (.invokevirtual 260, 3) := by decide +kernel
theorem dX8_writesPoint_10 : decode cX8_writesPoint 10 = .ok (.aload_n 0, 1) := by decide +kernel
theorem dX8_writesPoint_11 : decode cX8_writesPoint 11 = .ok (.bipush 32, 2) := by decide +kernel
theorem dX8_writesPoint_13 : decode cX8_writesPoint 13 = .ok (.invokevirtual 257, 3) := by decide +kernel
theorem dX8_writesPoint_16 : decode cX8_writesPoint 16 = .ok (.aload_n 0, 1) := by decide +kernel
theorem dX8_writesPoint_17 : decode cX8_writesPoint 17 = .ok (.aload_n 0, 1) := by decide +kernel
theorem dX8_writesPoint_18 : decode cX8_writesPoint 18 = .ok (.getfield 35, 3) := by decide +kernel
theorem dX8_writesPoint_21 : decode cX8_writesPoint 21 = .ok (.iconst 4, 1) := by decide +kernel
theorem dX8_writesPoint_22 : decode cX8_writesPoint 22 = .ok (.iload_n 1, 1) := by decide +kernel
theorem dX8_writesPoint_23 : decode cX8_writesPoint 23 = .ok (.iadd, 1) := by decide +kernel
theorem dX8_writesPoint_24 : decode cX8_writesPoint 24 = .ok (.iaload, 1) := by decide +kernel
theorem dX8_writesPoint_25 : decode cX8_writesPoint 25 = .ok (.invokevirtual 260, 3) := by decide +kernel
theorem dX8_writesPoint_28 : decode cX8_writesPoint 28 = .ok (.return_, 1) := by decide +kernel
theorem dX8_isLine_0 : decode cX8_isLine 0 = .ok (.aload_n 0, 1) := by decide +kernel
theorem dX8_isLine_1 : decode cX8_isLine 1 = .ok (.iload_n 1, 1) := by decide +kernel
theorem dX8_isLine_2 : decode cX8_isLine 2 = .ok (.iload_n 2, 1) := by decide +kernel
theorem dX8_isLine_3 : decode cX8_isLine 3 = .ok (.invokevirtual 155, 3) := by decide +kernel
theorem dX8_isLine_6 : decode cX8_isLine 6 = .ok (.aload_n 0, 1) := by decide +kernel
theorem dX8_isLine_7 : decode cX8_isLine 7 = .ok (.getfield 35, 3) := by decide +kernel
theorem dX8_isLine_10 : decode cX8_isLine 10 = .ok (.iconst 0, 1) := by decide +kernel
theorem dX8_isLine_11 : decode cX8_isLine 11 = .ok (.iaload, 1) := by decide +kernel
theorem dX8_isLine_12 : decode cX8_isLine 12 = .ok (.aload_n 0, 1) := by decide +kernel
theorem dX8_isLine_13 : decode cX8_isLine 13 = .ok (.getfield 35, 3) := by decide +kernel
theorem dX8_isLine_16 : decode cX8_isLine 16 = .ok (.iconst 1, 1) := by decide +kernel
theorem dX8_isLine_17 : decode cX8_isLine 17 = .ok (.iaload, 1) := by decide +kernel
theorem dX8_isLine_18 : decode cX8_isLine 18 = .ok (.if_icmp .ne 54, 3) := by decide +kernel
theorem dX8_isLine_21 : decode cX8_isLine 21 = .ok (.aload_n 0, 1) := by decide +kernel
theorem dX8_isLine_22 : decode cX8_isLine 22 = .ok (.getfield 35, 3) := by decide +kernel
theorem dX8_isLine_25 : decode cX8_isLine 25 = .ok (.iconst 4, 1) := by decide +kernel
theorem dX8_isLine_26 : decode cX8_isLine 26 = .ok (.iaload, 1) := by decide +kernel
theorem dX8_isLine_27 : decode cX8_isLine 27 = .ok (.aload_n 0, 1) := by decide +kernel
theorem dX8_isLine_28 : decode cX8_isLine 28 = .ok (.getfield 35, 3) := by decide +kernel
theorem dX8_isLine_31 : decode cX8_isLine 31 = .ok (.iconst 5, 1) := by decide +kernel
theorem dX8_isLine_32 : decode cX8_isLine 32 = .ok (.iaload, 1) := by decide +kernel
theorem dX8_isLine_33 : decode cX8_isLine 33 = .ok (.if_icmp .ne 39, 3) := by decide +kernel
theorem dX8_isLine_36 : decode cX8_isLine 36 = .ok (.aload_n 0, 1) := by decide +kernel
theorem dX8_isLine_37 : decode cX8_isLine 37 = .ok (.getfield 35, 3) := by decide +kernel
theorem dX8_isLine_40 : decode cX8_isLine 40 = .ok (.iconst 2, 1) := by decide +kernel
theorem dX8_isLine_41 : decode cX8_isLine 41 = .ok (.iaload, 1) := by decide +kernel
theorem dX8_isLine_42 : decode cX8_isLine 42 = .ok (.aload_n 0, 1) := by decide +kernel
theorem dX8_isLine_43 : decode cX8_isLine 43 = .ok (.getfield 35, 3) := by decide +kernel
theorem dX8_isLine_46 : decode cX8_isLine 46 = .ok (.iconst 3, 1) := by decide +kernel
theorem dX8_isLine_47 : decode cX8_isLine 47 = .ok (.iaload, 1) := by decide +kernel
theorem dX8_isLine_48 : decode cX8_isLine 48 = .ok (.if_icmp .ne 24, 3) := by decide +kernel
theorem dX8_isLine_51 : decode cX8_isLine 51 = .ok (.aload_n 0, 1) := by decide +kernel
theorem dX8_isLine_52 : decode cX8_isLine 52 = .ok (.getfield 35, 3) := by decide +kernel
theorem dX8_isLine_55 : decode cX8_isLine 55 = .ok (.bipush 6, 2) := by decide +kernel
theorem dX8_isLine_57 : decode cX8_isLine 57 = .ok (.iaload, 1) := by decide +kernel
theorem dX8_isLine_58 : decode cX8_isLine 58 = .ok (.aload_n 0, 1) := by decide +kernel
theorem dX8_isLine_59 : decode cX8_isLine 59 = .ok (.getfield 35, 3) := by decide +kernel
theorem dX8_isLine_62 : decode cX8_isLine 62 = .ok (.bipush 7, 2) := by decide +kernel
theorem dX8_isLine_64 : decode cX8_isLine 64 = .ok (.iaload, 1) := by decide +kernel
theorem dX8_isLine_65 : decode cX8_isLine 65 = .ok (.if_icmp .ne 7, 3) := by decide +kernel
theorem dX8_isLine_68 : decode cX8_isLine 68 = .ok (.iconst 1, 1) := by decide +kernel
theorem dX8_isLine_69 : decode cX8_isLine 69 = .ok (.goto 4, 3) := by decide +kernel
theorem dX8_isLine_72 : decode cX8_isLine 72 = .ok (.iconst 0, 1) := by decide +kernel
theorem dX8_isLine_73 : decode cX8_isLine 73 = .ok (.ireturn, 1) := by decide +kernel
theorem dX8_print_0 : decode cX8_print 0 = .ok (.aload_n 0, 1) := by decide +kernel
theorem dX8_print_1 : decode cX8_print 1 = .ok (.iload_n 1, 1) := by decide +kernel
theorem dX8_print_2 : decode cX8_print 2 = .ok (.invokevirtual 55, 3) := by decide +kernel
theorem dX8_print_5 : decode cX8_print 5 = .ok (.ifCond .ne 6, 3) := by decide +kernel
theorem dX8_print_8 : decode cX8_print 8 = .ok (.ldc 121, 2) := by decide +kernel
theorem dX8_print_10 : decode cX8_print 10 = .ok (.ireturn, 1) := by decide +kernel
theorem dX8_print_11 : decode cX8_print 11 = .ok (.aload_n 0, 1) := by decide +kernel
theorem dX8_print_12 : decode cX8_print 12 = .ok (.iconst 0, 1) := by decide +kernel
theorem dX8_print_13 : decode cX8_print 13 = .ok (.putfield 251, 3) := by decide +kernel
theorem dX8_print_16 : decode cX8_print 16 = .ok (.aload_n 0, 1) := by decide +kernel
theorem dX8_print_17 : decode cX8_print 17 = .ok (.iconst 1, 1) := by decide +kernel
theorem dX8_print_18 : decode cX8_print 18 = .ok (.putfield 254, 3) := by decide +kernel
theorem dX8_print_21 : decode cX8_print 21 = .ok (.aload_n 0, 1) := by decide +kernel
theorem dX8_print_22 : decode cX8_print 22 = .ok (.bipush 77, 2) := by decide +kernel
theorem dX8_print_24 : decode cX8_print 24 = .ok (.invokevirtual 257, 3) := by decide +kernel
theorem dX8_print_27 : decode cX8_print 27 = .ok (.aload_n 0, 1) := by decide +kernel
theorem dX8_print_28 : decode cX8_print 28 = .ok (.aload_n 0, 1) := by decide +kernel
theorem dX8_print_29 : decode cX8_print 29 = .ok (.getfield 7, 3) := by decide +kernel
theorem dX8_print_32 : decode cX8_print 32 = .ok (.iload_n 1, 1) := by decide +kernel
theorem dX8_print_33 : decode cX8_print 33 = .ok (.iconst 0, 1) := by decide +kernel
theorem dX8_print_34 : decode cX8_print 34 = .ok (.iconst 0, 1) := by decide +kernel
theorem dX8_print_35 : decode cX8_print 35 = .ok (.invokestatic 92, 3) := by decide +kernel
theorem dX8_print_38 : decode cX8_print 38 = .ok (.iaload, 1) := by decide +kernel
theorem dX8_print_39 : decode cX8_print 39 = .ok (.invokevirtual 260, 3) := by decide +kernel
theorem dX8_print_42 : decode cX8_print 42 = .ok (.aload_n 0, 1) := by decide +kernel
theorem dX8_print_43 : decode cX8_print 43 = .ok (.bipush 32, 2) := by decide +kernel
theorem dX8_print_45 : decode cX8_print 45 = .ok (.invokevirtual 257, 3) := by decide +kernel
theorem dX8_print_48 : decode cX8_print 48 = .ok (.aload_n 0, 1) := by decide +kernel
theorem dX8_print_49 : decode cX8_print 49 = .ok (.aload_n 0, 1) := by decide +kernel
theorem dX8_print_50 : decode cX8_print 50 = .ok (.getfield 7, 3) := by decide +kernel
theorem dX8_print_53 : decode cX8_print 53 = .ok (.iload_n 1, 1) := by decide +kernel
theorem dX8_print_54 : decode cX8_print 54 = .ok (.iconst 0, 1) := by decide +kernel
theorem dX8_print_55 : decode cX8_print 55 = .ok (.iconst 1, 1) := by decide +kernel
theorem dX8_print_56 : decode cX8_print 56 = .ok (.invokestatic 92, 3) := by decide +kernel
theorem dX8_print_59 : decode cX8_print 59 = .ok (.iaload, 1) := by decide +kernel
theorem dX8_print_60 : decode cX8_print 60 = .ok (.invokevirtual 260, 3) := by decide +kernel
theorem dX8_print_63 : decode cX8_print 63 = .ok (.aload_n 0, 1) := by decide +kernel
theorem dX8_print_64 : decode cX8_print 64 = .ok (.iload_n 1, 1) := by decide +kernel
theorem dX8_print_65 : decode cX8_print 65 = .ok (.invokevirtual 59, 3) := by decide +kernel
theorem dX8_print_68 : decode cX8_print 68 = .ok (.istore_n 2, 1) := by decide +kernel
theorem dX8_print_69 : decode cX8_print 69 = .ok (.iconst 0, 1) := by decide +kernel
theorem dX8_print_70 : decode cX8_print 70 = .ok (.istore_n 3, 1) := by decide +kernel
theorem dX8_print_71 : decode cX8_print 71 = .ok (.iload_n 3, 1) := by decide +kernel
theorem dX8_print_72 : decode cX8_print 72 = .ok (.iload_n 2, 1) := by decide +kernel
theorem dX8_print_73 : decode cX8_print 73 = .ok (.iconst 1, 1) := by decide +kernel
theorem dX8_print_74 : decode cX8_print 74 = .ok (.isub, 1) := by decide +kernel
theorem dX8_print_75 : decode cX8_print 75 = .ok (.if_icmp .ge 75, 3) := by decide +kernel
theorem dX8_print_78 : decode cX8_print 78 = .ok (.aload_n 0, 1) := by decide +kernel
theorem dX8_print_79 : decode cX8_print 79 = .ok (.iload_n 1, 1) := by decide +kernel
theorem dX8_print_80 : decode cX8_print 80 = .ok (.iload_n 3, 1) := by decide +kernel
theorem dX8_print_81 : decode cX8_print 81 = .ok (.invokevirtual 263, 3) := by decide +kernel
theorem dX8_print_84 : decode cX8_print 84 = .ok (.istore 4, 2) := by decide +kernel
theorem dX8_print_86 : decode cX8_print 86 = .ok (.aload_n 0, 1) := by decide +kernel
theorem dX8_print_87 : decode cX8_print 87 = .ok (.iload 4, 2) := by decide +kernel
theorem dX8_print_89 : decode cX8_print 89 = .ok (.ifCond .eq 8, 3) := by decide +kernel
theorem dX8_print_92 : decode cX8_print 92 = .ok (.bipush 76, 2) := by decide +kernel
theorem dX8_print_94 : decode cX8_print 94 = .ok (.goto 5, 3) := by decide +kernel
theorem dX8_print_97 : decode cX8_print 97 = .ok (.bipush 67, 2) := by decide +kernel
theorem dX8_print_99 : decode cX8_print 99 = .ok (.invokevirtual 257, 3) := by decide +kernel
theorem dX8_print_102 : decode cX8_print 102 = .ok (.iload 4, 2) := by decide +kernel
theorem dX8_print_104 : decode cX8_print 104 = .ok (.ifCond .eq 7, 3) := by decide +kernel
theorem dX8_print_107 : decode cX8_print 107 = .ok (.iconst 3, 1) := by decide +kernel
theorem dX8_print_108 : decode cX8_print 108 = .ok (.goto 4, 3) := by decide +kernel
theorem dX8_print_111 : decode cX8_print 111 = .ok (.iconst 1, 1) := by decide +kernel
theorem dX8_print_112 : decode cX8_print 112 = .ok (.istore 5, 2) := by decide +kernel
theorem dX8_print_114 : decode cX8_print 114 = .ok (.iload 5, 2) := by decide +kernel
theorem dX8_print_116 : decode cX8_print 116 = .ok (.iconst 4, 1) := by decide +kernel
theorem dX8_print_117 : decode cX8_print 117 = .ok (.if_icmp .ge 27, 3) := by decide +kernel
theorem dX8_print_120 : decode cX8_print 120 = .ok (.aload_n 0, 1) := by decide +kernel
theorem dX8_print_121 : decode cX8_print 121 = .ok (.iload 5, 2) := by decide +kernel
theorem dX8_print_123 : decode cX8_print 123 = .ok (.invokevirtual 266, 3) := by decide +kernel
theorem dX8_print_126 : decode cX8_print 126 = .ok (.iload 5, 2) := by decide +kernel
theorem dX8_print_128 : decode cX8_print 128 = .ok (.iconst 3, 1) := by decide +kernel
theorem dX8_print_129 : decode cX8_print 129 = .ok (.if_icmp .ge 9, 3) := by decide +kernel
theorem dX8_print_132 : decode cX8_print 132 = .ok (.aload_n 0, 1) := by decide +kernel
theorem dX8_print_133 : decode cX8_print 133 = .ok (.bipush 32, 2) := by decide +kernel
theorem dX8_print_135 : decode cX8_print 135 = .ok (.invokevirtual 257, 3) := by decide +kernel
theorem dX8_print_138 : decode cX8_print 138 = .ok (.iinc 5 1, 3) := by decide +kernel
theorem dX8_print_141 : decode cX8_print 141 = .ok (.goto (-27), 3) := by decide +kernel
theorem dX8_print_144 : decode cX8_print 144 = .ok (.iinc 3 1, 3) := by decide +kernel
theorem dX8_print_147 : decode cX8_print 147 = .ok (.goto (-76), 3) := by decide +kernel
theorem dX8_print_150 : decode cX8_print 150 = .ok (.aload_n 0, 1) := by decide +kernel
theorem dX8_print_151 : decode cX8_print 151 = .ok (.iload_n 1, 1) := by decide +kernel
theorem dX8_print_152 : decode cX8_print 152 = .ok (.invokevirtual 62, 3) := by decide +kernel
theorem dX8_print_155 : decode cX8_print 155 = .ok (.ifCond .eq 36, 3) := by decide +kernel
theorem dX8_print_158 : decode cX8_print 158 = .ok (.aload_n 0, 1) := by decide +kernel
theorem dX8_print_159 : decode cX8_print 159 = .ok (.aload_n 0, 1) := by decide +kernel
theorem dX8_print_160 : decode cX8_print 160 = .ok (.getfield 254, 3) := by decide +kernel
theorem dX8_print_163 : decode cX8_print 163 = .ok (.ifCond .eq 18, 3) := by decide +kernel
theorem dX8_print_166 : decode cX8_print 166 = .ok (.aload_n 0, 1) := by decide +kernel
theorem dX8_print_167 : decode cX8_print 167 = .ok (.iload_n 1, 1) := by decide +kernel
theorem dX8_print_168 : decode cX8_print 168 = .ok (.iload_n 2, 1) := by decide +kernel
theorem dX8_print_169 : decode cX8_print 169 = .ok (.iconst 1, 1) := by decide +kernel
theorem dX8_print_170 : decode cX8_print 170 = .ok (.isub, 1) := by decide +kernel
theorem dX8_print_171 : decode cX8_print 171 = .ok (.invokevirtual 263, 3) := by decide +kernel
theorem dX8_print_174 : decode cX8_print 174 = .ok (.ifCond .eq 7, 3) := by decide +kernel
theorem dX8_print_177 : decode cX8_print 177 = .ok (.iconst 1, 1) := by decide +kernel
theorem dX8_print_178 : decode cX8_print 178 = .ok (.goto 4, 3) := by decide +kernel
theorem dX8_print_181 : decode cX8_print 181 = .ok (.iconst 0, 1) := by decide +kernel
theorem dX8_print_182 : decode cX8_print 182 = .ok (.putfield 254, 3) := by decide +kernel
theorem dX8_print_185 : decode cX8_print 185 = .ok (.aload_n 0, 1) := by decide +kernel
theorem dX8_print_186 : decode cX8_print 186 = .ok (.bipush 90, 2) := by decide +kernel
theorem dX8_print_188 : decode cX8_print 188 = .ok (.invokevirtual 257, 3) := by decide +kernel
theorem dX8_print_191 : decode cX8_print 191 = .ok (.aload_n 0, 1) := by decide +kernel
theorem dX8_print_192 : decode cX8_print 192 = .ok (.getfield 254, 3) := by decide +kernel
theorem dX8_print_195 : decode cX8_print 195 = .ok (.ifCond .ne 6, 3) := by decide +kernel
theorem dX8_print_198 : decode cX8_print 198 = .ok (.ldc 122, 2) := by decide +kernel
theorem dX8_print_200 : decode cX8_print 200 = .ok (.ireturn, 1) := by decide +kernel
theorem dX8_print_201 : decode cX8_print 201 = .ok (.iconst 0, 1) := by decide +kernel
theorem dX8_print_202 : decode cX8_print 202 = .ok (.istore_n 3, 1) := by decide +kernel
theorem dX8_print_203 : decode cX8_print 203 = .ok (.iload_n 3, 1) := by decide +kernel
theorem dX8_print_204 : decode cX8_print 204 = .ok (.aload_n 0, 1) := by decide +kernel
theorem dX8_print_205 : decode cX8_print 205 = .ok (.getfield 251, 3) := by decide +kernel
theorem dX8_print_208 : decode cX8_print 208 = .ok (.if_icmp .ge 21, 3) := by decide +kernel
theorem dX8_print_211 : decode cX8_print 211 = .ok (.aload_n 0, 1) := by decide +kernel
theorem dX8_print_212 : decode cX8_print 212 = .ok (.getfield 32, 3) := by decide +kernel
theorem dX8_print_215 : decode cX8_print 215 = .ok (.iload_n 3, 1) := by decide +kernel
theorem dX8_print_216 : decode cX8_print 216 = .ok (.aload_n 0, 1) := by decide +kernel
theorem dX8_print_217 : decode cX8_print 217 = .ok (.getfield 44, 3) := by decide +kernel
theorem dX8_print_220 : decode cX8_print 220 = .ok (.iload_n 3, 1) := by decide +kernel
theorem dX8_print_221 : decode cX8_print 221 = .ok (.iaload, 1) := by decide +kernel
theorem dX8_print_222 : decode cX8_print 222 = .ok (.iastore, 1) := by decide +kernel
theorem dX8_print_223 : decode cX8_print 223 = .ok (.iinc 3 1, 3) := by decide +kernel
theorem dX8_print_226 : decode cX8_print 226 = .ok (.goto (-23), 3) := by decide +kernel
theorem dX8_print_229 : decode cX8_print 229 = .ok (.aload_n 0, 1) := by decide +kernel
theorem dX8_print_230 : decode cX8_print 230 = .ok (.aload_n 0, 1) := by decide +kernel
theorem dX8_print_231 : decode cX8_print 231 = .ok (.getfield 251, 3) := by decide +kernel
theorem dX8_print_234 : decode cX8_print 234 = .ok (.putfield 269, 3) := by decide +kernel
theorem dX8_print_237 : decode cX8_print 237 = .ok (.aload_n 0, 1) := by decide +kernel
theorem dX8_print_238 : decode cX8_print 238 = .ok (.getfield 269, 3) := by decide +kernel
theorem dX8_print_241 : decode cX8_print 241 = .ok (.ireturn, 1) := by decide +kernel
theorem dX8_printed_0 : decode cX8_printed 0 = .ok (.iload_n 1, 1) := by decide +kernel
theorem dX8_printed_1 : decode cX8_printed 1 = .ok (.iconst 0, 1) := by decide +kernel
theorem dX8_printed_2 : decode cX8_printed 2 = .ok (.aload_n 0, 1) := by decide +kernel
theorem dX8_printed_3 : decode cX8_printed 3 = .ok (.getfield 269, 3) := by decide +kernel
theorem dX8_printed_6 : decode cX8_printed 6 = .ok (.iconst 1, 1) := by decide +kernel
theorem dX8_printed_7 : decode cX8_printed 7 = .ok (.isub, 1) := by decide +kernel
theorem dX8_printed_8 : decode cX8_printed 8 = .ok (.invokestatic 47, 3) := by decide +kernel
theorem dX8_printed_11 : decode cX8_printed 11 = .ok (.ifCond .eq 12, 3) := by decide +kernel
theorem dX8_printed_14 : decode cX8_printed 14 = .ok (.aload_n 0, 1) := by decide +kernel
theorem dX8_printed_15 : decode cX8_printed 15 = .ok (.getfield 32, 3) := by decide +kernel
theorem dX8_printed_18 : decode cX8_printed 18 = .ok (.iload_n 1, 1) := by decide +kernel
theorem dX8_printed_19 : decode cX8_printed 19 = .ok (.iaload, 1) := by decide +kernel
theorem dX8_printed_20 : decode cX8_printed 20 = .ok (.goto 5, 3) := by decide +kernel
theorem dX8_printed_23 : decode cX8_printed 23 = .ok (.ldc 121, 2) := by decide +kernel
theorem dX8_printed_25 : decode cX8_printed 25 = .ok (.ireturn, 1) := by decide +kernel
theorem dX8_save_0 : decode cX8_save 0 = .ok (.iload_n 1, 1) := by decide +kernel
theorem dX8_save_1 : decode cX8_save 1 = .ok (.iconst 0, 1) := by decide +kernel
theorem dX8_save_2 : decode cX8_save 2 = .ok (.iconst 1, 1) := by decide +kernel
theorem dX8_save_3 : decode cX8_save 3 = .ok (.invokestatic 47, 3) := by decide +kernel
theorem dX8_save_6 : decode cX8_save 6 = .ok (.ifCond .ne 6, 3) := by decide +kernel
theorem dX8_save_9 : decode cX8_save 9 = .ok (.ldc 121, 2) := by decide +kernel
theorem dX8_save_11 : decode cX8_save 11 = .ok (.ireturn, 1) := by decide +kernel
theorem dX8_save_12 : decode cX8_save 12 = .ok (.aload_n 0, 1) := by decide +kernel
theorem dX8_save_13 : decode cX8_save 13 = .ok (.aload_n 0, 1) := by decide +kernel
theorem dX8_save_14 : decode cX8_save 14 = .ok (.getfield 7, 3) := by decide +kernel
theorem dX8_save_17 : decode cX8_save 17 = .ok (.iconst 0, 1) := by decide +kernel
theorem dX8_save_18 : decode cX8_save 18 = .ok (.aload_n 0, 1) := by decide +kernel
theorem dX8_save_19 : decode cX8_save 19 = .ok (.getfield 22, 3) := by decide +kernel
theorem dX8_save_22 : decode cX8_save 22 = .ok (.sipush 589, 3) := by decide +kernel
theorem dX8_save_25 : decode cX8_save 25 = .ok (.iload_n 1, 1) := by decide +kernel
theorem dX8_save_26 : decode cX8_save 26 = .ok (.imul, 1) := by decide +kernel
theorem dX8_save_27 : decode cX8_save 27 = .ok (.invokevirtual 68, 3) := by decide +kernel
theorem dX8_save_30 : decode cX8_save 30 = .ok (.aload_n 0, 1) := by decide +kernel
theorem dX8_save_31 : decode cX8_save 31 = .ok (.getfield 25, 3) := by decide +kernel
theorem dX8_save_34 : decode cX8_save 34 = .ok (.iload_n 1, 1) := by decide +kernel
theorem dX8_save_35 : decode cX8_save 35 = .ok (.iconst 1, 1) := by decide +kernel
theorem dX8_save_36 : decode cX8_save 36 = .ok (.bastore, 1) := by decide +kernel
theorem dX8_save_37 : decode cX8_save 37 = .ok (.aload_n 0, 1) := by decide +kernel
theorem dX8_save_38 : decode cX8_save 38 = .ok (.getfield 7, 3) := by decide +kernel
theorem dX8_save_41 : decode cX8_save 41 = .ok (.iconst 0, 1) := by decide +kernel
theorem dX8_save_42 : decode cX8_save 42 = .ok (.iaload, 1) := by decide +kernel
theorem dX8_save_43 : decode cX8_save 43 = .ok (.ireturn, 1) := by decide +kernel
theorem dX8_restore_0 : decode cX8_restore 0 = .ok (.iload_n 1, 1) := by decide +kernel
theorem dX8_restore_1 : decode cX8_restore 1 = .ok (.iconst 0, 1) := by decide +kernel
theorem dX8_restore_2 : decode cX8_restore 2 = .ok (.iconst 1, 1) := by decide +kernel
theorem dX8_restore_3 : decode cX8_restore 3 = .ok (.invokestatic 47, 3) := by decide +kernel
theorem dX8_restore_6 : decode cX8_restore 6 = .ok (.ifCond .ne 6, 3) := by decide +kernel
theorem dX8_restore_9 : decode cX8_restore 9 = .ok (.ldc 121, 2) := by decide +kernel
theorem dX8_restore_11 : decode cX8_restore 11 = .ok (.ireturn, 1) := by decide +kernel
theorem dX8_restore_12 : decode cX8_restore 12 = .ok (.aload_n 0, 1) := by decide +kernel
theorem dX8_restore_13 : decode cX8_restore 13 = .ok (.getfield 25, 3) := by decide +kernel
theorem dX8_restore_16 : decode cX8_restore 16 = .ok (.iload_n 1, 1) := by decide +kernel
theorem dX8_restore_17 : decode cX8_restore 17 = .ok (.baload, 1) := by decide +kernel
theorem dX8_restore_18 : decode cX8_restore 18 = .ok (.ifCond .ne 6, 3) := by decide +kernel
theorem dX8_restore_21 : decode cX8_restore 21 = .ok (.ldc 122, 2) := by decide +kernel
theorem dX8_restore_23 : decode cX8_restore 23 = .ok (.ireturn, 1) := by decide +kernel
theorem dX8_restore_24 : decode cX8_restore 24 = .ok (.aload_n 0, 1) := by decide +kernel
theorem dX8_restore_25 : decode cX8_restore 25 = .ok (.aload_n 0, 1) := by decide +kernel
theorem dX8_restore_26 : decode cX8_restore 26 = .ok (.getfield 22, 3) := by decide +kernel
theorem dX8_restore_29 : decode cX8_restore 29 = .ok (.sipush 589, 3) := by decide +kernel
theorem dX8_restore_32 : decode cX8_restore 32 = .ok (.iload_n 1, 1) := by decide +kernel
theorem dX8_restore_33 : decode cX8_restore 33 = .ok (.imul, 1) := by decide +kernel
theorem dX8_restore_34 : decode cX8_restore 34 = .ok (.aload_n 0, 1) := by decide +kernel
theorem dX8_restore_35 : decode cX8_restore 35 = .ok (.getfield 7, 3) := by decide +kernel
theorem dX8_restore_38 : decode cX8_restore 38 = .ok (.iconst 0, 1) := by decide +kernel
theorem dX8_restore_39 : decode cX8_restore 39 = .ok (.invokevirtual 68, 3) := by decide +kernel
theorem dX8_restore_42 : decode cX8_restore 42 = .ok (.aload_n 0, 1) := by decide +kernel
theorem dX8_restore_43 : decode cX8_restore 43 = .ok (.iconst 0, 1) := by decide +kernel
theorem dX8_restore_44 : decode cX8_restore 44 = .ok (.putfield 72, 3) := by decide +kernel
theorem dX8_restore_47 : decode cX8_restore 47 = .ok (.aload_n 0, 1) := by decide +kernel
theorem dX8_restore_48 : decode cX8_restore 48 = .ok (.iconst 0, 1) := by decide +kernel
theorem dX8_restore_49 : decode cX8_restore 49 = .ok (.putfield 80, 3) := by decide +kernel
theorem dX8_restore_52 : decode cX8_restore 52 = .ok (.aload_n 0, 1) := by decide +kernel
theorem dX8_restore_53 : decode cX8_restore 53 = .ok (.getfield 7, 3) := by decide +kernel
theorem dX8_restore_56 : decode cX8_restore 56 = .ok (.iconst 0, 1) := by decide +kernel
theorem dX8_restore_57 : decode cX8_restore 57 = .ok (.iaload, 1) := by decide +kernel
theorem dX8_restore_58 : decode cX8_restore 58 = .ok (.ireturn, 1) := by decide +kernel
theorem dX8_more_0 : decode cX8_more 0 = .ok (.ldc2_w 272, 3) := by decide +kernel
theorem dX8_more_3 : decode cX8_more 3 = .ok (.lload_n 0, 1) := by decide +kernel
theorem dX8_more_4 : decode cX8_more 4 = .ok (.lmul, 1) := by decide +kernel
theorem dX8_more_5 : decode cX8_more 5 = .ok (.lload_n 2, 1) := by decide +kernel
theorem dX8_more_6 : decode cX8_more 6 = .ok (.ladd, 1) := by decide +kernel
theorem dX8_more_7 : decode cX8_more 7 = .ok (.lreturn, 1) := by decide +kernel
theorem dX8_checksum_0 : decode cX8_checksum 0 = .ok (.ldc2_w 274, 3) := by decide +kernel
theorem dX8_checksum_3 : decode cX8_checksum 3 = .ok (.aload_n 0, 1) := by decide +kernel
theorem dX8_checksum_4 : decode cX8_checksum 4 = .ok (.getfield 7, 3) := by decide +kernel
theorem dX8_checksum_7 : decode cX8_checksum 7 = .ok (.iconst 0, 1) := by decide +kernel
theorem dX8_checksum_8 : decode cX8_checksum 8 = .ok (.iaload, 1) := by decide +kernel
theorem dX8_checksum_9 : decode cX8_checksum 9 = .ok (.i2l, 1) := by decide +kernel
theorem dX8_checksum_10 : decode cX8_checksum 10 = .ok (.invokestatic 276, 3) := by decide +kernel
theorem dX8_checksum_13 : decode cX8_checksum 13 = .ok (.lstore_n 1, 1) := by decide +kernel
theorem dX8_checksum_14 : decode cX8_checksum 14 = .ok (.iconst 0, 1) := by decide +kernel
theorem dX8_checksum_15 : decode cX8_checksum 15 = .ok (.istore_n 3, 1) := by decide +kernel
theorem dX8_checksum_16 : decode cX8_checksum 16 = .ok (.iload_n 3, 1) := by decide +kernel
theorem dX8_checksum_17 : decode cX8_checksum 17 = .ok (.aload_n 0, 1) := by decide +kernel
theorem dX8_checksum_18 : decode cX8_checksum 18 = .ok (.getfield 7, 3) := by decide +kernel
theorem dX8_checksum_21 : decode cX8_checksum 21 = .ok (.iconst 0, 1) := by decide +kernel
theorem dX8_checksum_22 : decode cX8_checksum 22 = .ok (.iaload, 1) := by decide +kernel
theorem dX8_checksum_23 : decode cX8_checksum 23 = .ok (.if_icmp .ge 137, 3) := by decide +kernel
theorem dX8_checksum_26 : decode cX8_checksum 26 = .ok (.lload_n 1, 1) := by decide +kernel
theorem dX8_checksum_27 : decode cX8_checksum 27 = .ok (.aload_n 0, 1) := by decide +kernel
theorem dX8_checksum_28 : decode cX8_checksum 28 = .ok (.iload_n 3, 1) := by decide +kernel
theorem dX8_checksum_29 : decode cX8_checksum 29 = .ok (.invokevirtual 59, 3) := by decide +kernel
theorem dX8_checksum_32 : decode cX8_checksum 32 = .ok (.i2l, 1) := by decide +kernel
theorem dX8_checksum_33 : decode cX8_checksum 33 = .ok (.invokestatic 276, 3) := by decide +kernel
theorem dX8_checksum_36 : decode cX8_checksum 36 = .ok (.aload_n 0, 1) := by decide +kernel
theorem dX8_checksum_37 : decode cX8_checksum 37 = .ok (.getfield 7, 3) := by decide +kernel
theorem dX8_checksum_40 : decode cX8_checksum 40 = .ok (.iload_n 3, 1) := by decide +kernel
theorem dX8_checksum_41 : decode cX8_checksum 41 = .ok (.invokestatic 51, 3) := by decide +kernel
theorem dX8_checksum_44 : decode cX8_checksum 44 = .ok (.iconst 1, 1) := by decide +kernel
theorem dX8_checksum_45 : decode cX8_checksum 45 = .ok (.iadd, 1) := by decide +kernel
theorem dX8_checksum_46 : decode cX8_checksum 46 = .ok (.iaload, 1) := by decide +kernel
theorem dX8_checksum_47 : decode cX8_checksum 47 = .ok (.i2l, 1) := by decide +kernel
theorem dX8_checksum_48 : decode cX8_checksum 48 = .ok (.invokestatic 276, 3) := by decide +kernel
theorem dX8_checksum_51 : decode cX8_checksum 51 = .ok (.lstore_n 1, 1) := by decide +kernel
theorem dX8_checksum_52 : decode cX8_checksum 52 = .ok (.iconst 0, 1) := by decide +kernel
theorem dX8_checksum_53 : decode cX8_checksum 53 = .ok (.istore 4, 2) := by decide +kernel
theorem dX8_checksum_55 : decode cX8_checksum 55 = .ok (.iload 4, 2) := by decide +kernel
theorem dX8_checksum_57 : decode cX8_checksum 57 = .ok (.aload_n 0, 1) := by decide +kernel
theorem dX8_checksum_58 : decode cX8_checksum 58 = .ok (.iload_n 3, 1) := by decide +kernel
theorem dX8_checksum_59 : decode cX8_checksum 59 = .ok (.invokevirtual 59, 3) := by decide +kernel
theorem dX8_checksum_62 : decode cX8_checksum 62 = .ok (.if_icmp .ge 70, 3) := by decide +kernel
theorem dX8_checksum_65 : decode cX8_checksum 65 = .ok (.iconst 0, 1) := by decide +kernel
theorem dX8_checksum_66 : decode cX8_checksum 66 = .ok (.istore 5, 2) := by decide +kernel
theorem dX8_checksum_68 : decode cX8_checksum 68 = .ok (.iload 5, 2) := by decide +kernel
theorem dX8_checksum_70 : decode cX8_checksum 70 = .ok (.bipush 6, 2) := by decide +kernel
theorem dX8_checksum_72 : decode cX8_checksum 72 = .ok (.if_icmp .ge 28, 3) := by decide +kernel
theorem dX8_checksum_75 : decode cX8_checksum 75 = .ok (.lload_n 1, 1) := by decide +kernel
theorem dX8_checksum_76 : decode cX8_checksum 76 = .ok (.aload_n 0, 1) := by decide +kernel
theorem dX8_checksum_77 : decode cX8_checksum 77 = .ok (.getfield 7, 3) := by decide +kernel
theorem dX8_checksum_80 : decode cX8_checksum 80 = .ok (.iload_n 3, 1) := by decide +kernel
theorem dX8_checksum_81 : decode cX8_checksum 81 = .ok (.iload 4, 2) := by decide +kernel
theorem dX8_checksum_83 : decode cX8_checksum 83 = .ok (.iload 5, 2) := by decide +kernel
theorem dX8_checksum_85 : decode cX8_checksum 85 = .ok (.invokestatic 92, 3) := by decide +kernel
theorem dX8_checksum_88 : decode cX8_checksum 88 = .ok (.iaload, 1) := by decide +kernel
theorem dX8_checksum_89 : decode cX8_checksum 89 = .ok (.i2l, 1) := by decide +kernel
theorem dX8_checksum_90 : decode cX8_checksum 90 = .ok (.invokestatic 276, 3) := by decide +kernel
theorem dX8_checksum_93 : decode cX8_checksum 93 = .ok (.lstore_n 1, 1) := by decide +kernel
theorem dX8_checksum_94 : decode cX8_checksum 94 = .ok (.iinc 5 1, 3) := by decide +kernel
theorem dX8_checksum_97 : decode cX8_checksum 97 = .ok (.goto (-29), 3) := by decide +kernel
theorem dX8_checksum_100 : decode cX8_checksum 100 = .ok (.lload_n 1, 1) := by decide +kernel
theorem dX8_checksum_101 : decode cX8_checksum 101 = .ok (.aload_n 0, 1) := by decide +kernel
theorem dX8_checksum_102 : decode cX8_checksum 102 = .ok (.iload_n 3, 1) := by decide +kernel
theorem dX8_checksum_103 : decode cX8_checksum 103 = .ok (.iload 4, 2) := by decide +kernel
theorem dX8_checksum_105 : decode cX8_checksum 105 = .ok (.iconst 0, 1) := by decide +kernel
theorem dX8_checksum_106 : decode cX8_checksum 106 = .ok (.invokevirtual 280, 3) := by decide +kernel
theorem dX8_checksum_109 : decode cX8_checksum 109 = .ok (.i2l, 1) := by decide +kernel
theorem dX8_checksum_110 : decode cX8_checksum 110 = .ok (.invokestatic 276, 3) := by decide +kernel
theorem dX8_checksum_113 : decode cX8_checksum 113 = .ok (.aload_n 0, 1) := by decide +kernel
theorem dX8_checksum_114 : decode cX8_checksum 114 = .ok (.iload_n 3, 1) := by decide +kernel
theorem dX8_checksum_115 : decode cX8_checksum 115 = .ok (.iload 4, 2) := by decide +kernel
theorem dX8_checksum_117 : decode cX8_checksum 117 = .ok (.iconst 1, 1) := by decide +kernel
theorem dX8_checksum_118 : decode cX8_checksum 118 = .ok (.invokevirtual 280, 3) := by decide +kernel
theorem dX8_checksum_121 : decode cX8_checksum 121 = .ok (.i2l, 1) := by decide +kernel
theorem dX8_checksum_122 : decode cX8_checksum 122 = .ok (.invokestatic 276, 3) := by decide +kernel
theorem dX8_checksum_125 : decode cX8_checksum 125 = .ok (.lstore_n 1, 1) := by decide +kernel
theorem dX8_checksum_126 : decode cX8_checksum 126 = .ok (.iinc 4 1, 3) := by decide +kernel
theorem dX8_checksum_129 : decode cX8_checksum 129 = .ok (.goto (-74), 3) := by decide +kernel
theorem dX8_checksum_132 : decode cX8_checksum 132 = .ok (.aload_n 0, 1) := by decide +kernel
theorem dX8_checksum_133 : decode cX8_checksum 133 = .ok (.iload_n 3, 1) := by decide +kernel
theorem dX8_checksum_134 : decode cX8_checksum 134 = .ok (.invokevirtual 62, 3) := by decide +kernel
theorem dX8_checksum_137 : decode cX8_checksum 137 = .ok (.ifCond .eq 15, 3) := by decide +kernel
theorem dX8_checksum_140 : decode cX8_checksum 140 = .ok (.lload_n 1, 1) := by decide +kernel
theorem dX8_checksum_141 : decode cX8_checksum 141 = .ok (.aload_n 0, 1) := by decide +kernel
theorem dX8_checksum_142 : decode cX8_checksum 142 = .ok (.iload_n 3, 1) := by decide +kernel
theorem dX8_checksum_143 : decode cX8_checksum 143 = .ok (.invokevirtual 194, 3) := by decide +kernel
theorem dX8_checksum_146 : decode cX8_checksum 146 = .ok (.invokestatic 276, 3) := by decide +kernel
theorem dX8_checksum_149 : decode cX8_checksum 149 = .ok (.goto 4, 3) := by decide +kernel
theorem dX8_checksum_152 : decode cX8_checksum 152 = .ok (.lload_n 1, 1) := by decide +kernel
theorem dX8_checksum_153 : decode cX8_checksum 153 = .ok (.lstore_n 1, 1) := by decide +kernel
theorem dX8_checksum_154 : decode cX8_checksum 154 = .ok (.iinc 3 1, 3) := by decide +kernel
theorem dX8_checksum_157 : decode cX8_checksum 157 = .ok (.goto (-141), 3) := by decide +kernel
theorem dX8_checksum_160 : decode cX8_checksum 160 = .ok (.lload_n 1, 1) := by decide +kernel
theorem dX8_checksum_161 : decode cX8_checksum 161 = .ok (.lreturn, 1) := by decide +kernel
theorem dL_law_0 : decode cL_law 0 = .ok (.new 7, 3) := by decide +kernel
theorem dL_law_3 : decode cL_law 3 = .ok (.dup, 1) := by decide +kernel
theorem dL_law_4 : decode cL_law 4 = .ok (.invokespecial 9, 3) := by decide +kernel
theorem dL_law_7 : decode cL_law 7 = .ok (.astore_n 1, 1) := by decide +kernel
theorem dL_law_8 : decode cL_law 8 = .ok (.new 10, 3) := by decide +kernel
theorem dL_law_11 : decode cL_law 11 = .ok (.dup, 1) := by decide +kernel
theorem dL_law_12 : decode cL_law 12 = .ok (.invokespecial 12, 3) := by decide +kernel
theorem dL_law_15 : decode cL_law 15 = .ok (.astore_n 2, 1) := by decide +kernel
theorem dL_law_16 : decode cL_law 16 = .ok (.iconst 0, 1) := by decide +kernel
theorem dL_law_17 : decode cL_law 17 = .ok (.istore_n 3, 1) := by decide +kernel
theorem dL_law_18 : decode cL_law 18 = .ok (.iload_n 3, 1) := by decide +kernel
theorem dL_law_19 : decode cL_law 19 = .ok (.aload_n 0, 1) := by decide +kernel
theorem dL_law_20 : decode cL_law 20 = .ok (.arraylength, 1) := by decide +kernel
theorem dL_law_21 : decode cL_law 21 = .ok (.bipush 7, 2) := by decide +kernel
theorem dL_law_23 : decode cL_law 23 = .ok (.isub, 1) := by decide +kernel
theorem dL_law_24 : decode cL_law 24 = .ok (.if_icmp .gt 1327, 3) := by decide +kernel
theorem dL_law_27 : decode cL_law 27 = .ok (.aload_n 0, 1) := by decide +kernel
theorem dL_law_28 : decode cL_law 28 = .ok (.iload_n 3, 1) := by decide +kernel
theorem dL_law_29 : decode cL_law 29 = .ok (.iaload, 1) := by decide +kernel
theorem dL_law_30 : decode cL_law 30 = .ok (.bipush 63, 2) := by decide +kernel
theorem dL_law_32 : decode cL_law 32 = .ok (.iand, 1) := by decide +kernel
theorem dL_law_33 : decode cL_law 33 = .ok (.tableswitch 1312 0 34 #[155, 188, 231, 254, 307, 386, 439, 472, 525, 558, 591, 624, 647, 722, 765, 778, 791, 804, 827, 850, 893, 952, 1031, 1055, 1088, 1121, 1144, 1167, 1180, 1193, 1206, 1229, 1252, 1275, 1298], 155) := by decide +kernel
theorem dL_law_188 : decode cL_law 188 = .ok (.aload_n 1, 1) := by decide +kernel
theorem dL_law_189 : decode cL_law 189 = .ok (.aload_n 0, 1) := by decide +kernel
theorem dL_law_190 : decode cL_law 190 = .ok (.iload_n 3, 1) := by decide +kernel
theorem dL_law_191 : decode cL_law 191 = .ok (.iconst 1, 1) := by decide +kernel
theorem dL_law_192 : decode cL_law 192 = .ok (.iadd, 1) := by decide +kernel
theorem dL_law_193 : decode cL_law 193 = .ok (.iaload, 1) := by decide +kernel
theorem dL_law_194 : decode cL_law 194 = .ok (.aload_n 0, 1) := by decide +kernel
theorem dL_law_195 : decode cL_law 195 = .ok (.iload_n 3, 1) := by decide +kernel
theorem dL_law_196 : decode cL_law 196 = .ok (.iconst 2, 1) := by decide +kernel
theorem dL_law_197 : decode cL_law 197 = .ok (.iadd, 1) := by decide +kernel
theorem dL_law_198 : decode cL_law 198 = .ok (.iaload, 1) := by decide +kernel
theorem dL_law_199 : decode cL_law 199 = .ok (.invokevirtual 13, 3) := by decide +kernel
theorem dL_law_202 : decode cL_law 202 = .ok (.aload_n 2, 1) := by decide +kernel
theorem dL_law_203 : decode cL_law 203 = .ok (.aload_n 0, 1) := by decide +kernel
theorem dL_law_204 : decode cL_law 204 = .ok (.iload_n 3, 1) := by decide +kernel
theorem dL_law_205 : decode cL_law 205 = .ok (.iconst 1, 1) := by decide +kernel
theorem dL_law_206 : decode cL_law 206 = .ok (.iadd, 1) := by decide +kernel
theorem dL_law_207 : decode cL_law 207 = .ok (.iaload, 1) := by decide +kernel
theorem dL_law_208 : decode cL_law 208 = .ok (.aload_n 0, 1) := by decide +kernel
theorem dL_law_209 : decode cL_law 209 = .ok (.iload_n 3, 1) := by decide +kernel
theorem dL_law_210 : decode cL_law 210 = .ok (.iconst 2, 1) := by decide +kernel
theorem dL_law_211 : decode cL_law 211 = .ok (.iadd, 1) := by decide +kernel
theorem dL_law_212 : decode cL_law 212 = .ok (.iaload, 1) := by decide +kernel
theorem dL_law_213 : decode cL_law 213 = .ok (.invokevirtual 17, 3) := by decide +kernel
theorem dL_law_216 : decode cL_law 216 = .ok (.if_icmp .eq 1129, 3) := by decide +kernel
theorem dL_law_219 : decode cL_law 219 = .ok (.iconst 0, 1) := by decide +kernel
theorem dL_law_220 : decode cL_law 220 = .ok (.ireturn, 1) := by decide +kernel
theorem dL_law_221 : decode cL_law 221 = .ok (.aload_n 1, 1) := by decide +kernel
theorem dL_law_222 : decode cL_law 222 = .ok (.aload_n 0, 1) := by decide +kernel
theorem dL_law_223 : decode cL_law 223 = .ok (.iload_n 3, 1) := by decide +kernel
theorem dL_law_224 : decode cL_law 224 = .ok (.iconst 1, 1) := by decide +kernel
theorem dL_law_225 : decode cL_law 225 = .ok (.iadd, 1) := by decide +kernel
theorem dL_law_226 : decode cL_law 226 = .ok (.iaload, 1) := by decide +kernel
theorem dL_law_227 : decode cL_law 227 = .ok (.aload_n 0, 1) := by decide +kernel
theorem dL_law_228 : decode cL_law 228 = .ok (.iload_n 3, 1) := by decide +kernel
theorem dL_law_229 : decode cL_law 229 = .ok (.iconst 2, 1) := by decide +kernel
theorem dL_law_230 : decode cL_law 230 = .ok (.iadd, 1) := by decide +kernel
theorem dL_law_231 : decode cL_law 231 = .ok (.iaload, 1) := by decide +kernel
theorem dL_law_232 : decode cL_law 232 = .ok (.aload_n 0, 1) := by decide +kernel
theorem dL_law_233 : decode cL_law 233 = .ok (.iload_n 3, 1) := by decide +kernel
theorem dL_law_234 : decode cL_law 234 = .ok (.iconst 3, 1) := by decide +kernel
theorem dL_law_235 : decode cL_law 235 = .ok (.iadd, 1) := by decide +kernel
theorem dL_law_236 : decode cL_law 236 = .ok (.iaload, 1) := by decide +kernel
theorem dL_law_237 : decode cL_law 237 = .ok (.invokevirtual 18, 3) := by decide +kernel
theorem dL_law_240 : decode cL_law 240 = .ok (.aload_n 2, 1) := by decide +kernel
theorem dL_law_241 : decode cL_law 241 = .ok (.aload_n 0, 1) := by decide +kernel
theorem dL_law_242 : decode cL_law 242 = .ok (.iload_n 3, 1) := by decide +kernel
theorem dL_law_243 : decode cL_law 243 = .ok (.iconst 1, 1) := by decide +kernel
theorem dL_law_244 : decode cL_law 244 = .ok (.iadd, 1) := by decide +kernel
theorem dL_law_245 : decode cL_law 245 = .ok (.iaload, 1) := by decide +kernel
theorem dL_law_246 : decode cL_law 246 = .ok (.aload_n 0, 1) := by decide +kernel
theorem dL_law_247 : decode cL_law 247 = .ok (.iload_n 3, 1) := by decide +kernel
theorem dL_law_248 : decode cL_law 248 = .ok (.iconst 2, 1) := by decide +kernel
theorem dL_law_249 : decode cL_law 249 = .ok (.iadd, 1) := by decide +kernel
theorem dL_law_250 : decode cL_law 250 = .ok (.iaload, 1) := by decide +kernel
theorem dL_law_251 : decode cL_law 251 = .ok (.aload_n 0, 1) := by decide +kernel
theorem dL_law_252 : decode cL_law 252 = .ok (.iload_n 3, 1) := by decide +kernel
theorem dL_law_253 : decode cL_law 253 = .ok (.iconst 3, 1) := by decide +kernel
theorem dL_law_254 : decode cL_law 254 = .ok (.iadd, 1) := by decide +kernel
theorem dL_law_255 : decode cL_law 255 = .ok (.iaload, 1) := by decide +kernel
theorem dL_law_256 : decode cL_law 256 = .ok (.invokevirtual 22, 3) := by decide +kernel
theorem dL_law_259 : decode cL_law 259 = .ok (.if_icmp .eq 1086, 3) := by decide +kernel
theorem dL_law_262 : decode cL_law 262 = .ok (.iconst 0, 1) := by decide +kernel
theorem dL_law_263 : decode cL_law 263 = .ok (.ireturn, 1) := by decide +kernel
theorem dL_law_264 : decode cL_law 264 = .ok (.aload_n 1, 1) := by decide +kernel
theorem dL_law_265 : decode cL_law 265 = .ok (.aload_n 0, 1) := by decide +kernel
theorem dL_law_266 : decode cL_law 266 = .ok (.iload_n 3, 1) := by decide +kernel
theorem dL_law_267 : decode cL_law 267 = .ok (.iconst 1, 1) := by decide +kernel
theorem dL_law_268 : decode cL_law 268 = .ok (.iadd, 1) := by decide +kernel
theorem dL_law_269 : decode cL_law 269 = .ok (.iaload, 1) := by decide +kernel
theorem dL_law_270 : decode cL_law 270 = .ok (.invokevirtual 23, 3) := by decide +kernel
theorem dL_law_273 : decode cL_law 273 = .ok (.aload_n 2, 1) := by decide +kernel
theorem dL_law_274 : decode cL_law 274 = .ok (.aload_n 0, 1) := by decide +kernel
theorem dL_law_275 : decode cL_law 275 = .ok (.iload_n 3, 1) := by decide +kernel
theorem dL_law_276 : decode cL_law 276 = .ok (.iconst 1, 1) := by decide +kernel
theorem dL_law_277 : decode cL_law 277 = .ok (.iadd, 1) := by decide +kernel
theorem dL_law_278 : decode cL_law 278 = .ok (.iaload, 1) := by decide +kernel
theorem dL_law_279 : decode cL_law 279 = .ok (.invokevirtual 27, 3) := by decide +kernel
theorem dL_law_282 : decode cL_law 282 = .ok (.if_icmp .eq 1063, 3) := by decide +kernel
theorem dL_law_285 : decode cL_law 285 = .ok (.iconst 0, 1) := by decide +kernel
theorem dL_law_286 : decode cL_law 286 = .ok (.ireturn, 1) := by decide +kernel
theorem dL_law_287 : decode cL_law 287 = .ok (.aload_n 1, 1) := by decide +kernel
theorem dL_law_288 : decode cL_law 288 = .ok (.aload_n 0, 1) := by decide +kernel
theorem dL_law_289 : decode cL_law 289 = .ok (.iload_n 3, 1) := by decide +kernel
theorem dL_law_290 : decode cL_law 290 = .ok (.iconst 1, 1) := by decide +kernel
theorem dL_law_291 : decode cL_law 291 = .ok (.iadd, 1) := by decide +kernel
theorem dL_law_292 : decode cL_law 292 = .ok (.iaload, 1) := by decide +kernel
theorem dL_law_293 : decode cL_law 293 = .ok (.aload_n 0, 1) := by decide +kernel
theorem dL_law_294 : decode cL_law 294 = .ok (.iload_n 3, 1) := by decide +kernel
theorem dL_law_295 : decode cL_law 295 = .ok (.iconst 2, 1) := by decide +kernel
theorem dL_law_296 : decode cL_law 296 = .ok (.iadd, 1) := by decide +kernel
theorem dL_law_297 : decode cL_law 297 = .ok (.iaload, 1) := by decide +kernel
theorem dL_law_298 : decode cL_law 298 = .ok (.aload_n 0, 1) := by decide +kernel
theorem dL_law_299 : decode cL_law 299 = .ok (.iload_n 3, 1) := by decide +kernel
theorem dL_law_300 : decode cL_law 300 = .ok (.iconst 3, 1) := by decide +kernel
theorem dL_law_301 : decode cL_law 301 = .ok (.iadd, 1) := by decide +kernel
theorem dL_law_302 : decode cL_law 302 = .ok (.iaload, 1) := by decide +kernel
theorem dL_law_303 : decode cL_law 303 = .ok (.aload_n 0, 1) := by decide +kernel
theorem dL_law_304 : decode cL_law 304 = .ok (.iload_n 3, 1) := by decide +kernel
theorem dL_law_305 : decode cL_law 305 = .ok (.iconst 4, 1) := by decide +kernel
theorem dL_law_306 : decode cL_law 306 = .ok (.iadd, 1) := by decide +kernel
theorem dL_law_307 : decode cL_law 307 = .ok (.iaload, 1) := by decide +kernel
theorem dL_law_308 : decode cL_law 308 = .ok (.invokevirtual 28, 3) := by decide +kernel
theorem dL_law_311 : decode cL_law 311 = .ok (.aload_n 2, 1) := by decide +kernel
theorem dL_law_312 : decode cL_law 312 = .ok (.aload_n 0, 1) := by decide +kernel
theorem dL_law_313 : decode cL_law 313 = .ok (.iload_n 3, 1) := by decide +kernel
theorem dL_law_314 : decode cL_law 314 = .ok (.iconst 1, 1) := by decide +kernel
theorem dL_law_315 : decode cL_law 315 = .ok (.iadd, 1) := by decide +kernel
theorem dL_law_316 : decode cL_law 316 = .ok (.iaload, 1) := by decide +kernel
theorem dL_law_317 : decode cL_law 317 = .ok (.aload_n 0, 1) := by decide +kernel
theorem dL_law_318 : decode cL_law 318 = .ok (.iload_n 3, 1) := by decide +kernel
theorem dL_law_319 : decode cL_law 319 = .ok (.iconst 2, 1) := by decide +kernel
theorem dL_law_320 : decode cL_law 320 = .ok (.iadd, 1) := by decide +kernel
theorem dL_law_321 : decode cL_law 321 = .ok (.iaload, 1) := by decide +kernel
theorem dL_law_322 : decode cL_law 322 = .ok (.aload_n 0, 1) := by decide +kernel
theorem dL_law_323 : decode cL_law 323 = .ok (.iload_n 3, 1) := by decide +kernel
theorem dL_law_324 : decode cL_law 324 = .ok (.iconst 3, 1) := by decide +kernel
theorem dL_law_325 : decode cL_law 325 = .ok (.iadd, 1) := by decide +kernel
theorem dL_law_326 : decode cL_law 326 = .ok (.iaload, 1) := by decide +kernel
theorem dL_law_327 : decode cL_law 327 = .ok (.aload_n 0, 1) := by decide +kernel
theorem dL_law_328 : decode cL_law 328 = .ok (.iload_n 3, 1) := by decide +kernel
theorem dL_law_329 : decode cL_law 329 = .ok (.iconst 4, 1) := by decide +kernel
theorem dL_law_330 : decode cL_law 330 = .ok (.iadd, 1) := by decide +kernel
theorem dL_law_331 : decode cL_law 331 = .ok (.iaload, 1) := by decide +kernel
theorem dL_law_332 : decode cL_law 332 = .ok (.invokevirtual 32, 3) := by decide +kernel
theorem dL_law_335 : decode cL_law 335 = .ok (.if_icmp .eq 1010, 3) := by decide +kernel
theorem dL_law_338 : decode cL_law 338 = .ok (.iconst 0, 1) := by decide +kernel
theorem dL_law_339 : decode cL_law 339 = .ok (.ireturn, 1) := by decide +kernel
theorem dL_law_340 : decode cL_law 340 = .ok (.aload_n 1, 1) := by decide +kernel
theorem dL_law_341 : decode cL_law 341 = .ok (.aload_n 0, 1) := by decide +kernel
theorem dL_law_342 : decode cL_law 342 = .ok (.iload_n 3, 1) := by decide +kernel
theorem dL_law_343 : decode cL_law 343 = .ok (.iconst 1, 1) := by decide +kernel
theorem dL_law_344 : decode cL_law 344 = .ok (.iadd, 1) := by decide +kernel
theorem dL_law_345 : decode cL_law 345 = .ok (.iaload, 1) := by decide +kernel
theorem dL_law_346 : decode cL_law 346 = .ok (.aload_n 0, 1) := by decide +kernel
theorem dL_law_347 : decode cL_law 347 = .ok (.iload_n 3, 1) := by decide +kernel
theorem dL_law_348 : decode cL_law 348 = .ok (.iconst 2, 1) := by decide +kernel
theorem dL_law_349 : decode cL_law 349 = .ok (.iadd, 1) := by decide +kernel
theorem dL_law_350 : decode cL_law 350 = .ok (.iaload, 1) := by decide +kernel
theorem dL_law_351 : decode cL_law 351 = .ok (.aload_n 0, 1) := by decide +kernel
theorem dL_law_352 : decode cL_law 352 = .ok (.iload_n 3, 1) := by decide +kernel
theorem dL_law_353 : decode cL_law 353 = .ok (.iconst 3, 1) := by decide +kernel
theorem dL_law_354 : decode cL_law 354 = .ok (.iadd, 1) := by decide +kernel
theorem dL_law_355 : decode cL_law 355 = .ok (.iaload, 1) := by decide +kernel
theorem dL_law_356 : decode cL_law 356 = .ok (.ifCond .eq 7, 3) := by decide +kernel
theorem dL_law_359 : decode cL_law 359 = .ok (.iconst 1, 1) := by decide +kernel
theorem dL_law_360 : decode cL_law 360 = .ok (.goto 4, 3) := by decide +kernel
theorem dL_law_363 : decode cL_law 363 = .ok (.iconst 0, 1) := by decide +kernel
theorem dL_law_364 : decode cL_law 364 = .ok (.aload_n 0, 1) := by decide +kernel
theorem dL_law_365 : decode cL_law 365 = .ok (.iload_n 3, 1) := by decide +kernel
theorem dL_law_366 : decode cL_law 366 = .ok (.iconst 4, 1) := by decide +kernel
theorem dL_law_367 : decode cL_law 367 = .ok (.iadd, 1) := by decide +kernel
theorem dL_law_368 : decode cL_law 368 = .ok (.iaload, 1) := by decide +kernel
theorem dL_law_369 : decode cL_law 369 = .ok (.aload_n 0, 1) := by decide +kernel
theorem dL_law_370 : decode cL_law 370 = .ok (.iload_n 3, 1) := by decide +kernel
theorem dL_law_371 : decode cL_law 371 = .ok (.iconst 5, 1) := by decide +kernel
theorem dL_law_372 : decode cL_law 372 = .ok (.iadd, 1) := by decide +kernel
theorem dL_law_373 : decode cL_law 373 = .ok (.iaload, 1) := by decide +kernel
theorem dL_law_374 : decode cL_law 374 = .ok (.invokevirtual 33, 3) := by decide +kernel
theorem dL_law_377 : decode cL_law 377 = .ok (.aload_n 2, 1) := by decide +kernel
theorem dL_law_378 : decode cL_law 378 = .ok (.aload_n 0, 1) := by decide +kernel
theorem dL_law_379 : decode cL_law 379 = .ok (.iload_n 3, 1) := by decide +kernel
theorem dL_law_380 : decode cL_law 380 = .ok (.iconst 1, 1) := by decide +kernel
theorem dL_law_381 : decode cL_law 381 = .ok (.iadd, 1) := by decide +kernel
theorem dL_law_382 : decode cL_law 382 = .ok (.iaload, 1) := by decide +kernel
theorem dL_law_383 : decode cL_law 383 = .ok (.aload_n 0, 1) := by decide +kernel
theorem dL_law_384 : decode cL_law 384 = .ok (.iload_n 3, 1) := by decide +kernel
theorem dL_law_385 : decode cL_law 385 = .ok (.iconst 2, 1) := by decide +kernel
theorem dL_law_386 : decode cL_law 386 = .ok (.iadd, 1) := by decide +kernel
theorem dL_law_387 : decode cL_law 387 = .ok (.iaload, 1) := by decide +kernel
theorem dL_law_388 : decode cL_law 388 = .ok (.aload_n 0, 1) := by decide +kernel
theorem dL_law_389 : decode cL_law 389 = .ok (.iload_n 3, 1) := by decide +kernel
theorem dL_law_390 : decode cL_law 390 = .ok (.iconst 3, 1) := by decide +kernel
theorem dL_law_391 : decode cL_law 391 = .ok (.iadd, 1) := by decide +kernel
theorem dL_law_392 : decode cL_law 392 = .ok (.iaload, 1) := by decide +kernel
theorem dL_law_393 : decode cL_law 393 = .ok (.ifCond .eq 7, 3) := by decide +kernel
theorem dL_law_396 : decode cL_law 396 = .ok (.iconst 1, 1) := by decide +kernel
theorem dL_law_397 : decode cL_law 397 = .ok (.goto 4, 3) := by decide +kernel
theorem dL_law_400 : decode cL_law 400 = .ok (.iconst 0, 1) := by decide +kernel
theorem dL_law_401 : decode cL_law 401 = .ok (.aload_n 0, 1) := by decide +kernel
theorem dL_law_402 : decode cL_law 402 = .ok (.iload_n 3, 1) := by decide +kernel
theorem dL_law_403 : decode cL_law 403 = .ok (.iconst 4, 1) := by decide +kernel
theorem dL_law_404 : decode cL_law 404 = .ok (.iadd, 1) := by decide +kernel
theorem dL_law_405 : decode cL_law 405 = .ok (.iaload, 1) := by decide +kernel
theorem dL_law_406 : decode cL_law 406 = .ok (.aload_n 0, 1) := by decide +kernel
theorem dL_law_407 : decode cL_law 407 = .ok (.iload_n 3, 1) := by decide +kernel
theorem dL_law_408 : decode cL_law 408 = .ok (.iconst 5, 1) := by decide +kernel
theorem dL_law_409 : decode cL_law 409 = .ok (.iadd, 1) := by decide +kernel
theorem dL_law_410 : decode cL_law 410 = .ok (.iaload, 1) := by decide +kernel
theorem dL_law_411 : decode cL_law 411 = .ok (.invokevirtual 37, 3) := by decide +kernel
theorem dL_law_414 : decode cL_law 414 = .ok (.if_icmp .eq 931, 3) := by decide +kernel
theorem dL_law_417 : decode cL_law 417 = .ok (.iconst 0, 1) := by decide +kernel
theorem dL_law_418 : decode cL_law 418 = .ok (.ireturn, 1) := by decide +kernel
theorem dL_law_419 : decode cL_law 419 = .ok (.aload_n 1, 1) := by decide +kernel
theorem dL_law_420 : decode cL_law 420 = .ok (.aload_n 0, 1) := by decide +kernel
theorem dL_law_421 : decode cL_law 421 = .ok (.iload_n 3, 1) := by decide +kernel
theorem dL_law_422 : decode cL_law 422 = .ok (.iconst 1, 1) := by decide +kernel
theorem dL_law_423 : decode cL_law 423 = .ok (.iadd, 1) := by decide +kernel
theorem dL_law_424 : decode cL_law 424 = .ok (.iaload, 1) := by decide +kernel
theorem dL_law_425 : decode cL_law 425 = .ok (.aload_n 0, 1) := by decide +kernel
theorem dL_law_426 : decode cL_law 426 = .ok (.iload_n 3, 1) := by decide +kernel
theorem dL_law_427 : decode cL_law 427 = .ok (.iconst 2, 1) := by decide +kernel
theorem dL_law_428 : decode cL_law 428 = .ok (.iadd, 1) := by decide +kernel
theorem dL_law_429 : decode cL_law 429 = .ok (.iaload, 1) := by decide +kernel
theorem dL_law_430 : decode cL_law 430 = .ok (.aload_n 0, 1) := by decide +kernel
theorem dL_law_431 : decode cL_law 431 = .ok (.iload_n 3, 1) := by decide +kernel
theorem dL_law_432 : decode cL_law 432 = .ok (.iconst 3, 1) := by decide +kernel
theorem dL_law_433 : decode cL_law 433 = .ok (.iadd, 1) := by decide +kernel
theorem dL_law_434 : decode cL_law 434 = .ok (.iaload, 1) := by decide +kernel
theorem dL_law_435 : decode cL_law 435 = .ok (.aload_n 0, 1) := by decide +kernel
theorem dL_law_436 : decode cL_law 436 = .ok (.iload_n 3, 1) := by decide +kernel
theorem dL_law_437 : decode cL_law 437 = .ok (.iconst 4, 1) := by decide +kernel
theorem dL_law_438 : decode cL_law 438 = .ok (.iadd, 1) := by decide +kernel
theorem dL_law_439 : decode cL_law 439 = .ok (.iaload, 1) := by decide +kernel
theorem dL_law_440 : decode cL_law 440 = .ok (.invokevirtual 38, 3) := by decide +kernel
theorem dL_law_443 : decode cL_law 443 = .ok (.aload_n 2, 1) := by decide +kernel
theorem dL_law_444 : decode cL_law 444 = .ok (.aload_n 0, 1) := by decide +kernel
theorem dL_law_445 : decode cL_law 445 = .ok (.iload_n 3, 1) := by decide +kernel
theorem dL_law_446 : decode cL_law 446 = .ok (.iconst 1, 1) := by decide +kernel
theorem dL_law_447 : decode cL_law 447 = .ok (.iadd, 1) := by decide +kernel
theorem dL_law_448 : decode cL_law 448 = .ok (.iaload, 1) := by decide +kernel
theorem dL_law_449 : decode cL_law 449 = .ok (.aload_n 0, 1) := by decide +kernel
theorem dL_law_450 : decode cL_law 450 = .ok (.iload_n 3, 1) := by decide +kernel
theorem dL_law_451 : decode cL_law 451 = .ok (.iconst 2, 1) := by decide +kernel
theorem dL_law_452 : decode cL_law 452 = .ok (.iadd, 1) := by decide +kernel
theorem dL_law_453 : decode cL_law 453 = .ok (.iaload, 1) := by decide +kernel
theorem dL_law_454 : decode cL_law 454 = .ok (.aload_n 0, 1) := by decide +kernel
theorem dL_law_455 : decode cL_law 455 = .ok (.iload_n 3, 1) := by decide +kernel
theorem dL_law_456 : decode cL_law 456 = .ok (.iconst 3, 1) := by decide +kernel
theorem dL_law_457 : decode cL_law 457 = .ok (.iadd, 1) := by decide +kernel
theorem dL_law_458 : decode cL_law 458 = .ok (.iaload, 1) := by decide +kernel
theorem dL_law_459 : decode cL_law 459 = .ok (.aload_n 0, 1) := by decide +kernel
theorem dL_law_460 : decode cL_law 460 = .ok (.iload_n 3, 1) := by decide +kernel
theorem dL_law_461 : decode cL_law 461 = .ok (.iconst 4, 1) := by decide +kernel
theorem dL_law_462 : decode cL_law 462 = .ok (.iadd, 1) := by decide +kernel
theorem dL_law_463 : decode cL_law 463 = .ok (.iaload, 1) := by decide +kernel
theorem dL_law_464 : decode cL_law 464 = .ok (.invokevirtual 41, 3) := by decide +kernel
theorem dL_law_467 : decode cL_law 467 = .ok (.if_icmp .eq 878, 3) := by decide +kernel
theorem dL_law_470 : decode cL_law 470 = .ok (.iconst 0, 1) := by decide +kernel
theorem dL_law_471 : decode cL_law 471 = .ok (.ireturn, 1) := by decide +kernel
theorem dL_law_472 : decode cL_law 472 = .ok (.aload_n 1, 1) := by decide +kernel
theorem dL_law_473 : decode cL_law 473 = .ok (.aload_n 0, 1) := by decide +kernel
theorem dL_law_474 : decode cL_law 474 = .ok (.iload_n 3, 1) := by decide +kernel
theorem dL_law_475 : decode cL_law 475 = .ok (.iconst 1, 1) := by decide +kernel
theorem dL_law_476 : decode cL_law 476 = .ok (.iadd, 1) := by decide +kernel
theorem dL_law_477 : decode cL_law 477 = .ok (.iaload, 1) := by decide +kernel
theorem dL_law_478 : decode cL_law 478 = .ok (.aload_n 0, 1) := by decide +kernel
theorem dL_law_479 : decode cL_law 479 = .ok (.iload_n 3, 1) := by decide +kernel
theorem dL_law_480 : decode cL_law 480 = .ok (.iconst 2, 1) := by decide +kernel
theorem dL_law_481 : decode cL_law 481 = .ok (.iadd, 1) := by decide +kernel
theorem dL_law_482 : decode cL_law 482 = .ok (.iaload, 1) := by decide +kernel
theorem dL_law_483 : decode cL_law 483 = .ok (.invokevirtual 42, 3) := by decide +kernel
theorem dL_law_486 : decode cL_law 486 = .ok (.aload_n 2, 1) := by decide +kernel
theorem dL_law_487 : decode cL_law 487 = .ok (.aload_n 0, 1) := by decide +kernel
theorem dL_law_488 : decode cL_law 488 = .ok (.iload_n 3, 1) := by decide +kernel
theorem dL_law_489 : decode cL_law 489 = .ok (.iconst 1, 1) := by decide +kernel
theorem dL_law_490 : decode cL_law 490 = .ok (.iadd, 1) := by decide +kernel
theorem dL_law_491 : decode cL_law 491 = .ok (.iaload, 1) := by decide +kernel
theorem dL_law_492 : decode cL_law 492 = .ok (.aload_n 0, 1) := by decide +kernel
theorem dL_law_493 : decode cL_law 493 = .ok (.iload_n 3, 1) := by decide +kernel
theorem dL_law_494 : decode cL_law 494 = .ok (.iconst 2, 1) := by decide +kernel
theorem dL_law_495 : decode cL_law 495 = .ok (.iadd, 1) := by decide +kernel
theorem dL_law_496 : decode cL_law 496 = .ok (.iaload, 1) := by decide +kernel
theorem dL_law_497 : decode cL_law 497 = .ok (.invokevirtual 45, 3) := by decide +kernel
theorem dL_law_500 : decode cL_law 500 = .ok (.if_icmp .eq 845, 3) := by decide +kernel
theorem dL_law_503 : decode cL_law 503 = .ok (.iconst 0, 1) := by decide +kernel
theorem dL_law_504 : decode cL_law 504 = .ok (.ireturn, 1) := by decide +kernel
theorem dL_law_505 : decode cL_law 505 = .ok (.aload_n 1, 1) := by decide +kernel
theorem dL_law_506 : decode cL_law 506 = .ok (.aload_n 0, 1) := by decide +kernel
theorem dL_law_507 : decode cL_law 507 = .ok (.iload_n 3, 1) := by decide +kernel
theorem dL_law_508 : decode cL_law 508 = .ok (.iconst 1, 1) := by decide +kernel
theorem dL_law_509 : decode cL_law 509 = .ok (.iadd, 1) := by decide +kernel
theorem dL_law_510 : decode cL_law 510 = .ok (.iaload, 1) := by decide +kernel
theorem dL_law_511 : decode cL_law 511 = .ok (.aload_n 0, 1) := by decide +kernel
theorem dL_law_512 : decode cL_law 512 = .ok (.iload_n 3, 1) := by decide +kernel
theorem dL_law_513 : decode cL_law 513 = .ok (.iconst 2, 1) := by decide +kernel
theorem dL_law_514 : decode cL_law 514 = .ok (.iadd, 1) := by decide +kernel
theorem dL_law_515 : decode cL_law 515 = .ok (.iaload, 1) := by decide +kernel
theorem dL_law_516 : decode cL_law 516 = .ok (.aload_n 0, 1) := by decide +kernel
theorem dL_law_517 : decode cL_law 517 = .ok (.iload_n 3, 1) := by decide +kernel
theorem dL_law_518 : decode cL_law 518 = .ok (.iconst 3, 1) := by decide +kernel
theorem dL_law_519 : decode cL_law 519 = .ok (.iadd, 1) := by decide +kernel
theorem dL_law_520 : decode cL_law 520 = .ok (.iaload, 1) := by decide +kernel
theorem dL_law_521 : decode cL_law 521 = .ok (.aload_n 0, 1) := by decide +kernel
theorem dL_law_522 : decode cL_law 522 = .ok (.iload_n 3, 1) := by decide +kernel
theorem dL_law_523 : decode cL_law 523 = .ok (.iconst 4, 1) := by decide +kernel
theorem dL_law_524 : decode cL_law 524 = .ok (.iadd, 1) := by decide +kernel
theorem dL_law_525 : decode cL_law 525 = .ok (.iaload, 1) := by decide +kernel
theorem dL_law_526 : decode cL_law 526 = .ok (.invokevirtual 46, 3) := by decide +kernel
theorem dL_law_529 : decode cL_law 529 = .ok (.aload_n 2, 1) := by decide +kernel
theorem dL_law_530 : decode cL_law 530 = .ok (.aload_n 0, 1) := by decide +kernel
theorem dL_law_531 : decode cL_law 531 = .ok (.iload_n 3, 1) := by decide +kernel
theorem dL_law_532 : decode cL_law 532 = .ok (.iconst 1, 1) := by decide +kernel
theorem dL_law_533 : decode cL_law 533 = .ok (.iadd, 1) := by decide +kernel
theorem dL_law_534 : decode cL_law 534 = .ok (.iaload, 1) := by decide +kernel
theorem dL_law_535 : decode cL_law 535 = .ok (.aload_n 0, 1) := by decide +kernel
theorem dL_law_536 : decode cL_law 536 = .ok (.iload_n 3, 1) := by decide +kernel
theorem dL_law_537 : decode cL_law 537 = .ok (.iconst 2, 1) := by decide +kernel
theorem dL_law_538 : decode cL_law 538 = .ok (.iadd, 1) := by decide +kernel
theorem dL_law_539 : decode cL_law 539 = .ok (.iaload, 1) := by decide +kernel
theorem dL_law_540 : decode cL_law 540 = .ok (.aload_n 0, 1) := by decide +kernel
theorem dL_law_541 : decode cL_law 541 = .ok (.iload_n 3, 1) := by decide +kernel
theorem dL_law_542 : decode cL_law 542 = .ok (.iconst 3, 1) := by decide +kernel
theorem dL_law_543 : decode cL_law 543 = .ok (.iadd, 1) := by decide +kernel
theorem dL_law_544 : decode cL_law 544 = .ok (.iaload, 1) := by decide +kernel
theorem dL_law_545 : decode cL_law 545 = .ok (.aload_n 0, 1) := by decide +kernel
theorem dL_law_546 : decode cL_law 546 = .ok (.iload_n 3, 1) := by decide +kernel
theorem dL_law_547 : decode cL_law 547 = .ok (.iconst 4, 1) := by decide +kernel
theorem dL_law_548 : decode cL_law 548 = .ok (.iadd, 1) := by decide +kernel
theorem dL_law_549 : decode cL_law 549 = .ok (.iaload, 1) := by decide +kernel
theorem dL_law_550 : decode cL_law 550 = .ok (.invokevirtual 49, 3) := by decide +kernel
theorem dL_law_553 : decode cL_law 553 = .ok (.if_icmp .eq 792, 3) := by decide +kernel
theorem dL_law_556 : decode cL_law 556 = .ok (.iconst 0, 1) := by decide +kernel
theorem dL_law_557 : decode cL_law 557 = .ok (.ireturn, 1) := by decide +kernel
theorem dL_law_558 : decode cL_law 558 = .ok (.aload_n 1, 1) := by decide +kernel
theorem dL_law_559 : decode cL_law 559 = .ok (.aload_n 0, 1) := by decide +kernel
theorem dL_law_560 : decode cL_law 560 = .ok (.iload_n 3, 1) := by decide +kernel
theorem dL_law_561 : decode cL_law 561 = .ok (.iconst 1, 1) := by decide +kernel
theorem dL_law_562 : decode cL_law 562 = .ok (.iadd, 1) := by decide +kernel
theorem dL_law_563 : decode cL_law 563 = .ok (.iaload, 1) := by decide +kernel
theorem dL_law_564 : decode cL_law 564 = .ok (.aload_n 0, 1) := by decide +kernel
theorem dL_law_565 : decode cL_law 565 = .ok (.iload_n 3, 1) := by decide +kernel
theorem dL_law_566 : decode cL_law 566 = .ok (.iconst 2, 1) := by decide +kernel
theorem dL_law_567 : decode cL_law 567 = .ok (.iadd, 1) := by decide +kernel
theorem dL_law_568 : decode cL_law 568 = .ok (.iaload, 1) := by decide +kernel
theorem dL_law_569 : decode cL_law 569 = .ok (.invokevirtual 50, 3) := by decide +kernel
theorem dL_law_572 : decode cL_law 572 = .ok (.aload_n 2, 1) := by decide +kernel
theorem dL_law_573 : decode cL_law 573 = .ok (.aload_n 0, 1) := by decide +kernel
theorem dL_law_574 : decode cL_law 574 = .ok (.iload_n 3, 1) := by decide +kernel
theorem dL_law_575 : decode cL_law 575 = .ok (.iconst 1, 1) := by decide +kernel
theorem dL_law_576 : decode cL_law 576 = .ok (.iadd, 1) := by decide +kernel
theorem dL_law_577 : decode cL_law 577 = .ok (.iaload, 1) := by decide +kernel
theorem dL_law_578 : decode cL_law 578 = .ok (.aload_n 0, 1) := by decide +kernel
theorem dL_law_579 : decode cL_law 579 = .ok (.iload_n 3, 1) := by decide +kernel
theorem dL_law_580 : decode cL_law 580 = .ok (.iconst 2, 1) := by decide +kernel
theorem dL_law_581 : decode cL_law 581 = .ok (.iadd, 1) := by decide +kernel
theorem dL_law_582 : decode cL_law 582 = .ok (.iaload, 1) := by decide +kernel
theorem dL_law_583 : decode cL_law 583 = .ok (.invokevirtual 53, 3) := by decide +kernel
theorem dL_law_586 : decode cL_law 586 = .ok (.if_icmp .eq 759, 3) := by decide +kernel
theorem dL_law_589 : decode cL_law 589 = .ok (.iconst 0, 1) := by decide +kernel
theorem dL_law_590 : decode cL_law 590 = .ok (.ireturn, 1) := by decide +kernel
theorem dL_law_591 : decode cL_law 591 = .ok (.aload_n 1, 1) := by decide +kernel
theorem dL_law_592 : decode cL_law 592 = .ok (.aload_n 0, 1) := by decide +kernel
theorem dL_law_593 : decode cL_law 593 = .ok (.iload_n 3, 1) := by decide +kernel
theorem dL_law_594 : decode cL_law 594 = .ok (.iconst 1, 1) := by decide +kernel
theorem dL_law_595 : decode cL_law 595 = .ok (.iadd, 1) := by decide +kernel
theorem dL_law_596 : decode cL_law 596 = .ok (.iaload, 1) := by decide +kernel
theorem dL_law_597 : decode cL_law 597 = .ok (.aload_n 0, 1) := by decide +kernel
theorem dL_law_598 : decode cL_law 598 = .ok (.iload_n 3, 1) := by decide +kernel
theorem dL_law_599 : decode cL_law 599 = .ok (.iconst 2, 1) := by decide +kernel
theorem dL_law_600 : decode cL_law 600 = .ok (.iadd, 1) := by decide +kernel
theorem dL_law_601 : decode cL_law 601 = .ok (.iaload, 1) := by decide +kernel
theorem dL_law_602 : decode cL_law 602 = .ok (.invokevirtual 54, 3) := by decide +kernel
theorem dL_law_605 : decode cL_law 605 = .ok (.aload_n 2, 1) := by decide +kernel
theorem dL_law_606 : decode cL_law 606 = .ok (.aload_n 0, 1) := by decide +kernel
theorem dL_law_607 : decode cL_law 607 = .ok (.iload_n 3, 1) := by decide +kernel
theorem dL_law_608 : decode cL_law 608 = .ok (.iconst 1, 1) := by decide +kernel
theorem dL_law_609 : decode cL_law 609 = .ok (.iadd, 1) := by decide +kernel
theorem dL_law_610 : decode cL_law 610 = .ok (.iaload, 1) := by decide +kernel
theorem dL_law_611 : decode cL_law 611 = .ok (.aload_n 0, 1) := by decide +kernel
theorem dL_law_612 : decode cL_law 612 = .ok (.iload_n 3, 1) := by decide +kernel
theorem dL_law_613 : decode cL_law 613 = .ok (.iconst 2, 1) := by decide +kernel
theorem dL_law_614 : decode cL_law 614 = .ok (.iadd, 1) := by decide +kernel
theorem dL_law_615 : decode cL_law 615 = .ok (.iaload, 1) := by decide +kernel
theorem dL_law_616 : decode cL_law 616 = .ok (.invokevirtual 57, 3) := by decide +kernel
theorem dL_law_619 : decode cL_law 619 = .ok (.if_icmp .eq 726, 3) := by decide +kernel
theorem dL_law_622 : decode cL_law 622 = .ok (.iconst 0, 1) := by decide +kernel
theorem dL_law_623 : decode cL_law 623 = .ok (.ireturn, 1) := by decide +kernel
theorem dL_law_624 : decode cL_law 624 = .ok (.aload_n 1, 1) := by decide +kernel
theorem dL_law_625 : decode cL_law 625 = .ok (.aload_n 0, 1) := by decide +kernel
theorem dL_law_626 : decode cL_law 626 = .ok (.iload_n 3, 1) := by decide +kernel
theorem dL_law_627 : decode cL_law 627 = .ok (.iconst 1, 1) := by decide +kernel
theorem dL_law_628 : decode cL_law 628 = .ok (.iadd, 1) := by decide +kernel
theorem dL_law_629 : decode cL_law 629 = .ok (.iaload, 1) := by decide +kernel
theorem dL_law_630 : decode cL_law 630 = .ok (.aload_n 0, 1) := by decide +kernel
theorem dL_law_631 : decode cL_law 631 = .ok (.iload_n 3, 1) := by decide +kernel
theorem dL_law_632 : decode cL_law 632 = .ok (.iconst 2, 1) := by decide +kernel
theorem dL_law_633 : decode cL_law 633 = .ok (.iadd, 1) := by decide +kernel
theorem dL_law_634 : decode cL_law 634 = .ok (.iaload, 1) := by decide +kernel
theorem dL_law_635 : decode cL_law 635 = .ok (.invokevirtual 58, 3) := by decide +kernel
theorem dL_law_638 : decode cL_law 638 = .ok (.aload_n 2, 1) := by decide +kernel
theorem dL_law_639 : decode cL_law 639 = .ok (.aload_n 0, 1) := by decide +kernel
theorem dL_law_640 : decode cL_law 640 = .ok (.iload_n 3, 1) := by decide +kernel
theorem dL_law_641 : decode cL_law 641 = .ok (.iconst 1, 1) := by decide +kernel
theorem dL_law_642 : decode cL_law 642 = .ok (.iadd, 1) := by decide +kernel
theorem dL_law_643 : decode cL_law 643 = .ok (.iaload, 1) := by decide +kernel
theorem dL_law_644 : decode cL_law 644 = .ok (.aload_n 0, 1) := by decide +kernel
theorem dL_law_645 : decode cL_law 645 = .ok (.iload_n 3, 1) := by decide +kernel
theorem dL_law_646 : decode cL_law 646 = .ok (.iconst 2, 1) := by decide +kernel
theorem dL_law_647 : decode cL_law 647 = .ok (.iadd, 1) := by decide +kernel
theorem dL_law_648 : decode cL_law 648 = .ok (.iaload, 1) := by decide +kernel
theorem dL_law_649 : decode cL_law 649 = .ok (.invokevirtual 61, 3) := by decide +kernel
theorem dL_law_652 : decode cL_law 652 = .ok (.if_icmp .eq 693, 3) := by decide +kernel
theorem dL_law_655 : decode cL_law 655 = .ok (.iconst 0, 1) := by decide +kernel
theorem dL_law_656 : decode cL_law 656 = .ok (.ireturn, 1) := by decide +kernel
theorem dL_law_657 : decode cL_law 657 = .ok (.aload_n 1, 1) := by decide +kernel
theorem dL_law_658 : decode cL_law 658 = .ok (.aload_n 0, 1) := by decide +kernel
theorem dL_law_659 : decode cL_law 659 = .ok (.iload_n 3, 1) := by decide +kernel
theorem dL_law_660 : decode cL_law 660 = .ok (.iconst 1, 1) := by decide +kernel
theorem dL_law_661 : decode cL_law 661 = .ok (.iadd, 1) := by decide +kernel
theorem dL_law_662 : decode cL_law 662 = .ok (.iaload, 1) := by decide +kernel
theorem dL_law_663 : decode cL_law 663 = .ok (.invokevirtual 62, 3) := by decide +kernel
theorem dL_law_666 : decode cL_law 666 = .ok (.aload_n 2, 1) := by decide +kernel
theorem dL_law_667 : decode cL_law 667 = .ok (.aload_n 0, 1) := by decide +kernel
theorem dL_law_668 : decode cL_law 668 = .ok (.iload_n 3, 1) := by decide +kernel
theorem dL_law_669 : decode cL_law 669 = .ok (.iconst 1, 1) := by decide +kernel
theorem dL_law_670 : decode cL_law 670 = .ok (.iadd, 1) := by decide +kernel
theorem dL_law_671 : decode cL_law 671 = .ok (.iaload, 1) := by decide +kernel
theorem dL_law_672 : decode cL_law 672 = .ok (.invokevirtual 65, 3) := by decide +kernel
theorem dL_law_675 : decode cL_law 675 = .ok (.if_icmp .eq 670, 3) := by decide +kernel
theorem dL_law_678 : decode cL_law 678 = .ok (.iconst 0, 1) := by decide +kernel
theorem dL_law_679 : decode cL_law 679 = .ok (.ireturn, 1) := by decide +kernel
theorem dL_law_680 : decode cL_law 680 = .ok (.aload_n 1, 1) := by decide +kernel
theorem dL_law_681 : decode cL_law 681 = .ok (.aload_n 0, 1) := by decide +kernel
theorem dL_law_682 : decode cL_law 682 = .ok (.iload_n 3, 1) := by decide +kernel
theorem dL_law_683 : decode cL_law 683 = .ok (.iconst 1, 1) := by decide +kernel
theorem dL_law_684 : decode cL_law 684 = .ok (.iadd, 1) := by decide +kernel
theorem dL_law_685 : decode cL_law 685 = .ok (.iaload, 1) := by decide +kernel
theorem dL_law_686 : decode cL_law 686 = .ok (.aload_n 0, 1) := by decide +kernel
theorem dL_law_687 : decode cL_law 687 = .ok (.iload_n 3, 1) := by decide +kernel
theorem dL_law_688 : decode cL_law 688 = .ok (.iconst 2, 1) := by decide +kernel
theorem dL_law_689 : decode cL_law 689 = .ok (.iadd, 1) := by decide +kernel
theorem dL_law_690 : decode cL_law 690 = .ok (.iaload, 1) := by decide +kernel
theorem dL_law_691 : decode cL_law 691 = .ok (.aload_n 0, 1) := by decide +kernel
theorem dL_law_692 : decode cL_law 692 = .ok (.iload_n 3, 1) := by decide +kernel
theorem dL_law_693 : decode cL_law 693 = .ok (.iconst 3, 1) := by decide +kernel
theorem dL_law_694 : decode cL_law 694 = .ok (.iadd, 1) := by decide +kernel
theorem dL_law_695 : decode cL_law 695 = .ok (.iaload, 1) := by decide +kernel
theorem dL_law_696 : decode cL_law 696 = .ok (.aload_n 0, 1) := by decide +kernel
theorem dL_law_697 : decode cL_law 697 = .ok (.iload_n 3, 1) := by decide +kernel
theorem dL_law_698 : decode cL_law 698 = .ok (.iconst 4, 1) := by decide +kernel
theorem dL_law_699 : decode cL_law 699 = .ok (.iadd, 1) := by decide +kernel
theorem dL_law_700 : decode cL_law 700 = .ok (.iaload, 1) := by decide +kernel
theorem dL_law_701 : decode cL_law 701 = .ok (.aload_n 0, 1) := by decide +kernel
theorem dL_law_702 : decode cL_law 702 = .ok (.iload_n 3, 1) := by decide +kernel
theorem dL_law_703 : decode cL_law 703 = .ok (.iconst 5, 1) := by decide +kernel
theorem dL_law_704 : decode cL_law 704 = .ok (.iadd, 1) := by decide +kernel
theorem dL_law_705 : decode cL_law 705 = .ok (.iaload, 1) := by decide +kernel
theorem dL_law_706 : decode cL_law 706 = .ok (.aload_n 0, 1) := by decide +kernel
theorem dL_law_707 : decode cL_law 707 = .ok (.iload_n 3, 1) := by decide +kernel
theorem dL_law_708 : decode cL_law 708 = .ok (.bipush 6, 2) := by decide +kernel
theorem dL_law_710 : decode cL_law 710 = .ok (.iadd, 1) := by decide +kernel
theorem dL_law_711 : decode cL_law 711 = .ok (.iaload, 1) := by decide +kernel
theorem dL_law_712 : decode cL_law 712 = .ok (.invokevirtual 66, 3) := by decide +kernel
theorem dL_law_715 : decode cL_law 715 = .ok (.aload_n 2, 1) := by decide +kernel
theorem dL_law_716 : decode cL_law 716 = .ok (.aload_n 0, 1) := by decide +kernel
theorem dL_law_717 : decode cL_law 717 = .ok (.iload_n 3, 1) := by decide +kernel
theorem dL_law_718 : decode cL_law 718 = .ok (.iconst 1, 1) := by decide +kernel
theorem dL_law_719 : decode cL_law 719 = .ok (.iadd, 1) := by decide +kernel
theorem dL_law_720 : decode cL_law 720 = .ok (.iaload, 1) := by decide +kernel
theorem dL_law_721 : decode cL_law 721 = .ok (.aload_n 0, 1) := by decide +kernel
theorem dL_law_722 : decode cL_law 722 = .ok (.iload_n 3, 1) := by decide +kernel
theorem dL_law_723 : decode cL_law 723 = .ok (.iconst 2, 1) := by decide +kernel
theorem dL_law_724 : decode cL_law 724 = .ok (.iadd, 1) := by decide +kernel
theorem dL_law_725 : decode cL_law 725 = .ok (.iaload, 1) := by decide +kernel
theorem dL_law_726 : decode cL_law 726 = .ok (.aload_n 0, 1) := by decide +kernel
theorem dL_law_727 : decode cL_law 727 = .ok (.iload_n 3, 1) := by decide +kernel
theorem dL_law_728 : decode cL_law 728 = .ok (.iconst 3, 1) := by decide +kernel
theorem dL_law_729 : decode cL_law 729 = .ok (.iadd, 1) := by decide +kernel
theorem dL_law_730 : decode cL_law 730 = .ok (.iaload, 1) := by decide +kernel
theorem dL_law_731 : decode cL_law 731 = .ok (.aload_n 0, 1) := by decide +kernel
theorem dL_law_732 : decode cL_law 732 = .ok (.iload_n 3, 1) := by decide +kernel
theorem dL_law_733 : decode cL_law 733 = .ok (.iconst 4, 1) := by decide +kernel
theorem dL_law_734 : decode cL_law 734 = .ok (.iadd, 1) := by decide +kernel
theorem dL_law_735 : decode cL_law 735 = .ok (.iaload, 1) := by decide +kernel
theorem dL_law_736 : decode cL_law 736 = .ok (.aload_n 0, 1) := by decide +kernel
theorem dL_law_737 : decode cL_law 737 = .ok (.iload_n 3, 1) := by decide +kernel
theorem dL_law_738 : decode cL_law 738 = .ok (.iconst 5, 1) := by decide +kernel
theorem dL_law_739 : decode cL_law 739 = .ok (.iadd, 1) := by decide +kernel
theorem dL_law_740 : decode cL_law 740 = .ok (.iaload, 1) := by decide +kernel
theorem dL_law_741 : decode cL_law 741 = .ok (.aload_n 0, 1) := by decide +kernel
theorem dL_law_742 : decode cL_law 742 = .ok (.iload_n 3, 1) := by decide +kernel
theorem dL_law_743 : decode cL_law 743 = .ok (.bipush 6, 2) := by decide +kernel
theorem dL_law_745 : decode cL_law 745 = .ok (.iadd, 1) := by decide +kernel
theorem dL_law_746 : decode cL_law 746 = .ok (.iaload, 1) := by decide +kernel
theorem dL_law_747 : decode cL_law 747 = .ok (.invokevirtual 70, 3) := by decide +kernel
theorem dL_law_750 : decode cL_law 750 = .ok (.if_icmp .eq 595, 3) := by decide +kernel
theorem dL_law_753 : decode cL_law 753 = .ok (.iconst 0, 1) := by decide +kernel
theorem dL_law_754 : decode cL_law 754 = .ok (.ireturn, 1) := by decide +kernel
theorem dL_law_755 : decode cL_law 755 = .ok (.aload_n 1, 1) := by decide +kernel
theorem dL_law_756 : decode cL_law 756 = .ok (.aload_n 0, 1) := by decide +kernel
theorem dL_law_757 : decode cL_law 757 = .ok (.iload_n 3, 1) := by decide +kernel
theorem dL_law_758 : decode cL_law 758 = .ok (.iconst 1, 1) := by decide +kernel
theorem dL_law_759 : decode cL_law 759 = .ok (.iadd, 1) := by decide +kernel
theorem dL_law_760 : decode cL_law 760 = .ok (.iaload, 1) := by decide +kernel
theorem dL_law_761 : decode cL_law 761 = .ok (.aload_n 0, 1) := by decide +kernel
theorem dL_law_762 : decode cL_law 762 = .ok (.iload_n 3, 1) := by decide +kernel
theorem dL_law_763 : decode cL_law 763 = .ok (.iconst 2, 1) := by decide +kernel
theorem dL_law_764 : decode cL_law 764 = .ok (.iadd, 1) := by decide +kernel
theorem dL_law_765 : decode cL_law 765 = .ok (.iaload, 1) := by decide +kernel
theorem dL_law_766 : decode cL_law 766 = .ok (.aload_n 0, 1) := by decide +kernel
theorem dL_law_767 : decode cL_law 767 = .ok (.iload_n 3, 1) := by decide +kernel
theorem dL_law_768 : decode cL_law 768 = .ok (.iconst 3, 1) := by decide +kernel
theorem dL_law_769 : decode cL_law 769 = .ok (.iadd, 1) := by decide +kernel
theorem dL_law_770 : decode cL_law 770 = .ok (.iaload, 1) := by decide +kernel
theorem dL_law_771 : decode cL_law 771 = .ok (.invokevirtual 71, 3) := by decide +kernel
theorem dL_law_774 : decode cL_law 774 = .ok (.aload_n 2, 1) := by decide +kernel
theorem dL_law_775 : decode cL_law 775 = .ok (.aload_n 0, 1) := by decide +kernel
theorem dL_law_776 : decode cL_law 776 = .ok (.iload_n 3, 1) := by decide +kernel
theorem dL_law_777 : decode cL_law 777 = .ok (.iconst 1, 1) := by decide +kernel
theorem dL_law_778 : decode cL_law 778 = .ok (.iadd, 1) := by decide +kernel
theorem dL_law_779 : decode cL_law 779 = .ok (.iaload, 1) := by decide +kernel
theorem dL_law_780 : decode cL_law 780 = .ok (.aload_n 0, 1) := by decide +kernel
theorem dL_law_781 : decode cL_law 781 = .ok (.iload_n 3, 1) := by decide +kernel
theorem dL_law_782 : decode cL_law 782 = .ok (.iconst 2, 1) := by decide +kernel
theorem dL_law_783 : decode cL_law 783 = .ok (.iadd, 1) := by decide +kernel
theorem dL_law_784 : decode cL_law 784 = .ok (.iaload, 1) := by decide +kernel
theorem dL_law_785 : decode cL_law 785 = .ok (.aload_n 0, 1) := by decide +kernel
theorem dL_law_786 : decode cL_law 786 = .ok (.iload_n 3, 1) := by decide +kernel
theorem dL_law_787 : decode cL_law 787 = .ok (.iconst 3, 1) := by decide +kernel
theorem dL_law_788 : decode cL_law 788 = .ok (.iadd, 1) := by decide +kernel
theorem dL_law_789 : decode cL_law 789 = .ok (.iaload, 1) := by decide +kernel
theorem dL_law_790 : decode cL_law 790 = .ok (.invokevirtual 74, 3) := by decide +kernel
theorem dL_law_793 : decode cL_law 793 = .ok (.if_icmp .eq 552, 3) := by decide +kernel
theorem dL_law_796 : decode cL_law 796 = .ok (.iconst 0, 1) := by decide +kernel
theorem dL_law_797 : decode cL_law 797 = .ok (.ireturn, 1) := by decide +kernel
theorem dL_law_798 : decode cL_law 798 = .ok (.aload_n 1, 1) := by decide +kernel
theorem dL_law_799 : decode cL_law 799 = .ok (.invokevirtual 75, 3) := by decide +kernel
theorem dL_law_802 : decode cL_law 802 = .ok (.aload_n 2, 1) := by decide +kernel
theorem dL_law_803 : decode cL_law 803 = .ok (.invokevirtual 79, 3) := by decide +kernel
theorem dL_law_806 : decode cL_law 806 = .ok (.if_icmp .eq 539, 3) := by decide +kernel
theorem dL_law_809 : decode cL_law 809 = .ok (.iconst 0, 1) := by decide +kernel
theorem dL_law_810 : decode cL_law 810 = .ok (.ireturn, 1) := by decide +kernel
theorem dL_law_811 : decode cL_law 811 = .ok (.aload_n 1, 1) := by decide +kernel
theorem dL_law_812 : decode cL_law 812 = .ok (.invokevirtual 80, 3) := by decide +kernel
theorem dL_law_815 : decode cL_law 815 = .ok (.aload_n 2, 1) := by decide +kernel
theorem dL_law_816 : decode cL_law 816 = .ok (.invokevirtual 83, 3) := by decide +kernel
theorem dL_law_819 : decode cL_law 819 = .ok (.if_icmp .eq 526, 3) := by decide +kernel
theorem dL_law_822 : decode cL_law 822 = .ok (.iconst 0, 1) := by decide +kernel
theorem dL_law_823 : decode cL_law 823 = .ok (.ireturn, 1) := by decide +kernel
theorem dL_law_824 : decode cL_law 824 = .ok (.aload_n 1, 1) := by decide +kernel
theorem dL_law_825 : decode cL_law 825 = .ok (.invokevirtual 84, 3) := by decide +kernel
theorem dL_law_828 : decode cL_law 828 = .ok (.aload_n 2, 1) := by decide +kernel
theorem dL_law_829 : decode cL_law 829 = .ok (.invokevirtual 87, 3) := by decide +kernel
theorem dL_law_832 : decode cL_law 832 = .ok (.if_icmp .eq 513, 3) := by decide +kernel
theorem dL_law_835 : decode cL_law 835 = .ok (.iconst 0, 1) := by decide +kernel
theorem dL_law_836 : decode cL_law 836 = .ok (.ireturn, 1) := by decide +kernel
theorem dL_law_837 : decode cL_law 837 = .ok (.aload_n 1, 1) := by decide +kernel
theorem dL_law_838 : decode cL_law 838 = .ok (.aload_n 0, 1) := by decide +kernel
theorem dL_law_839 : decode cL_law 839 = .ok (.iload_n 3, 1) := by decide +kernel
theorem dL_law_840 : decode cL_law 840 = .ok (.iconst 1, 1) := by decide +kernel
theorem dL_law_841 : decode cL_law 841 = .ok (.iadd, 1) := by decide +kernel
theorem dL_law_842 : decode cL_law 842 = .ok (.iaload, 1) := by decide +kernel
theorem dL_law_843 : decode cL_law 843 = .ok (.invokevirtual 88, 3) := by decide +kernel
theorem dL_law_846 : decode cL_law 846 = .ok (.aload_n 2, 1) := by decide +kernel
theorem dL_law_847 : decode cL_law 847 = .ok (.aload_n 0, 1) := by decide +kernel
theorem dL_law_848 : decode cL_law 848 = .ok (.iload_n 3, 1) := by decide +kernel
theorem dL_law_849 : decode cL_law 849 = .ok (.iconst 1, 1) := by decide +kernel
theorem dL_law_850 : decode cL_law 850 = .ok (.iadd, 1) := by decide +kernel
theorem dL_law_851 : decode cL_law 851 = .ok (.iaload, 1) := by decide +kernel
theorem dL_law_852 : decode cL_law 852 = .ok (.invokevirtual 91, 3) := by decide +kernel
theorem dL_law_855 : decode cL_law 855 = .ok (.if_icmp .eq 490, 3) := by decide +kernel
theorem dL_law_858 : decode cL_law 858 = .ok (.iconst 0, 1) := by decide +kernel
theorem dL_law_859 : decode cL_law 859 = .ok (.ireturn, 1) := by decide +kernel
theorem dL_law_860 : decode cL_law 860 = .ok (.aload_n 1, 1) := by decide +kernel
theorem dL_law_861 : decode cL_law 861 = .ok (.aload_n 0, 1) := by decide +kernel
theorem dL_law_862 : decode cL_law 862 = .ok (.iload_n 3, 1) := by decide +kernel
theorem dL_law_863 : decode cL_law 863 = .ok (.iconst 1, 1) := by decide +kernel
theorem dL_law_864 : decode cL_law 864 = .ok (.iadd, 1) := by decide +kernel
theorem dL_law_865 : decode cL_law 865 = .ok (.iaload, 1) := by decide +kernel
theorem dL_law_866 : decode cL_law 866 = .ok (.invokevirtual 92, 3) := by decide +kernel
theorem dL_law_869 : decode cL_law 869 = .ok (.aload_n 2, 1) := by decide +kernel
theorem dL_law_870 : decode cL_law 870 = .ok (.aload_n 0, 1) := by decide +kernel
theorem dL_law_871 : decode cL_law 871 = .ok (.iload_n 3, 1) := by decide +kernel
theorem dL_law_872 : decode cL_law 872 = .ok (.iconst 1, 1) := by decide +kernel
theorem dL_law_873 : decode cL_law 873 = .ok (.iadd, 1) := by decide +kernel
theorem dL_law_874 : decode cL_law 874 = .ok (.iaload, 1) := by decide +kernel
theorem dL_law_875 : decode cL_law 875 = .ok (.invokevirtual 95, 3) := by decide +kernel
theorem dL_law_878 : decode cL_law 878 = .ok (.if_icmp .eq 467, 3) := by decide +kernel
theorem dL_law_881 : decode cL_law 881 = .ok (.iconst 0, 1) := by decide +kernel
theorem dL_law_882 : decode cL_law 882 = .ok (.ireturn, 1) := by decide +kernel
theorem dL_law_883 : decode cL_law 883 = .ok (.aload_n 1, 1) := by decide +kernel
theorem dL_law_884 : decode cL_law 884 = .ok (.aload_n 0, 1) := by decide +kernel
theorem dL_law_885 : decode cL_law 885 = .ok (.iload_n 3, 1) := by decide +kernel
theorem dL_law_886 : decode cL_law 886 = .ok (.iconst 1, 1) := by decide +kernel
theorem dL_law_887 : decode cL_law 887 = .ok (.iadd, 1) := by decide +kernel
theorem dL_law_888 : decode cL_law 888 = .ok (.iaload, 1) := by decide +kernel
theorem dL_law_889 : decode cL_law 889 = .ok (.aload_n 0, 1) := by decide +kernel
theorem dL_law_890 : decode cL_law 890 = .ok (.iload_n 3, 1) := by decide +kernel
theorem dL_law_891 : decode cL_law 891 = .ok (.iconst 2, 1) := by decide +kernel
theorem dL_law_892 : decode cL_law 892 = .ok (.iadd, 1) := by decide +kernel
theorem dL_law_893 : decode cL_law 893 = .ok (.iaload, 1) := by decide +kernel
theorem dL_law_894 : decode cL_law 894 = .ok (.aload_n 0, 1) := by decide +kernel
theorem dL_law_895 : decode cL_law 895 = .ok (.iload_n 3, 1) := by decide +kernel
theorem dL_law_896 : decode cL_law 896 = .ok (.iconst 3, 1) := by decide +kernel
theorem dL_law_897 : decode cL_law 897 = .ok (.iadd, 1) := by decide +kernel
theorem dL_law_898 : decode cL_law 898 = .ok (.iaload, 1) := by decide +kernel
theorem dL_law_899 : decode cL_law 899 = .ok (.invokevirtual 96, 3) := by decide +kernel
theorem dL_law_902 : decode cL_law 902 = .ok (.aload_n 2, 1) := by decide +kernel
theorem dL_law_903 : decode cL_law 903 = .ok (.aload_n 0, 1) := by decide +kernel
theorem dL_law_904 : decode cL_law 904 = .ok (.iload_n 3, 1) := by decide +kernel
theorem dL_law_905 : decode cL_law 905 = .ok (.iconst 1, 1) := by decide +kernel
theorem dL_law_906 : decode cL_law 906 = .ok (.iadd, 1) := by decide +kernel
theorem dL_law_907 : decode cL_law 907 = .ok (.iaload, 1) := by decide +kernel
theorem dL_law_908 : decode cL_law 908 = .ok (.aload_n 0, 1) := by decide +kernel
theorem dL_law_909 : decode cL_law 909 = .ok (.iload_n 3, 1) := by decide +kernel
theorem dL_law_910 : decode cL_law 910 = .ok (.iconst 2, 1) := by decide +kernel
theorem dL_law_911 : decode cL_law 911 = .ok (.iadd, 1) := by decide +kernel
theorem dL_law_912 : decode cL_law 912 = .ok (.iaload, 1) := by decide +kernel
theorem dL_law_913 : decode cL_law 913 = .ok (.aload_n 0, 1) := by decide +kernel
theorem dL_law_914 : decode cL_law 914 = .ok (.iload_n 3, 1) := by decide +kernel
theorem dL_law_915 : decode cL_law 915 = .ok (.iconst 3, 1) := by decide +kernel
theorem dL_law_916 : decode cL_law 916 = .ok (.iadd, 1) := by decide +kernel
theorem dL_law_917 : decode cL_law 917 = .ok (.iaload, 1) := by decide +kernel
theorem dL_law_918 : decode cL_law 918 = .ok (.invokevirtual 99, 3) := by decide +kernel
theorem dL_law_921 : decode cL_law 921 = .ok (.if_icmp .eq 424, 3) := by decide +kernel
theorem dL_law_924 : decode cL_law 924 = .ok (.iconst 0, 1) := by decide +kernel
theorem dL_law_925 : decode cL_law 925 = .ok (.ireturn, 1) := by decide +kernel
theorem dL_law_926 : decode cL_law 926 = .ok (.aload_n 1, 1) := by decide +kernel
theorem dL_law_927 : decode cL_law 927 = .ok (.aload_n 0, 1) := by decide +kernel
theorem dL_law_928 : decode cL_law 928 = .ok (.iload_n 3, 1) := by decide +kernel
theorem dL_law_929 : decode cL_law 929 = .ok (.iconst 1, 1) := by decide +kernel
theorem dL_law_930 : decode cL_law 930 = .ok (.iadd, 1) := by decide +kernel
theorem dL_law_931 : decode cL_law 931 = .ok (.iaload, 1) := by decide +kernel
theorem dL_law_932 : decode cL_law 932 = .ok (.aload_n 0, 1) := by decide +kernel
theorem dL_law_933 : decode cL_law 933 = .ok (.iload_n 3, 1) := by decide +kernel
theorem dL_law_934 : decode cL_law 934 = .ok (.iconst 2, 1) := by decide +kernel
theorem dL_law_935 : decode cL_law 935 = .ok (.iadd, 1) := by decide +kernel
theorem dL_law_936 : decode cL_law 936 = .ok (.iaload, 1) := by decide +kernel
theorem dL_law_937 : decode cL_law 937 = .ok (.aload_n 0, 1) := by decide +kernel
theorem dL_law_938 : decode cL_law 938 = .ok (.iload_n 3, 1) := by decide +kernel
theorem dL_law_939 : decode cL_law 939 = .ok (.iconst 3, 1) := by decide +kernel
theorem dL_law_940 : decode cL_law 940 = .ok (.iadd, 1) := by decide +kernel
theorem dL_law_941 : decode cL_law 941 = .ok (.iaload, 1) := by decide +kernel
theorem dL_law_942 : decode cL_law 942 = .ok (.ifCond .eq 7, 3) := by decide +kernel
theorem dL_law_945 : decode cL_law 945 = .ok (.iconst 1, 1) := by decide +kernel
theorem dL_law_946 : decode cL_law 946 = .ok (.goto 4, 3) := by decide +kernel
theorem dL_law_949 : decode cL_law 949 = .ok (.iconst 0, 1) := by decide +kernel
theorem dL_law_950 : decode cL_law 950 = .ok (.invokevirtual 100, 3) := by decide +kernel
theorem dL_law_953 : decode cL_law 953 = .ok (.aload_n 2, 1) := by decide +kernel
theorem dL_law_954 : decode cL_law 954 = .ok (.aload_n 0, 1) := by decide +kernel
theorem dL_law_955 : decode cL_law 955 = .ok (.iload_n 3, 1) := by decide +kernel
theorem dL_law_956 : decode cL_law 956 = .ok (.iconst 1, 1) := by decide +kernel
theorem dL_law_957 : decode cL_law 957 = .ok (.iadd, 1) := by decide +kernel
theorem dL_law_958 : decode cL_law 958 = .ok (.iaload, 1) := by decide +kernel
theorem dL_law_959 : decode cL_law 959 = .ok (.aload_n 0, 1) := by decide +kernel
theorem dL_law_960 : decode cL_law 960 = .ok (.iload_n 3, 1) := by decide +kernel
theorem dL_law_961 : decode cL_law 961 = .ok (.iconst 2, 1) := by decide +kernel
theorem dL_law_962 : decode cL_law 962 = .ok (.iadd, 1) := by decide +kernel
theorem dL_law_963 : decode cL_law 963 = .ok (.iaload, 1) := by decide +kernel
theorem dL_law_964 : decode cL_law 964 = .ok (.aload_n 0, 1) := by decide +kernel
theorem dL_law_965 : decode cL_law 965 = .ok (.iload_n 3, 1) := by decide +kernel
theorem dL_law_966 : decode cL_law 966 = .ok (.iconst 3, 1) := by decide +kernel
theorem dL_law_967 : decode cL_law 967 = .ok (.iadd, 1) := by decide +kernel
theorem dL_law_968 : decode cL_law 968 = .ok (.iaload, 1) := by decide +kernel
theorem dL_law_969 : decode cL_law 969 = .ok (.ifCond .eq 7, 3) := by decide +kernel
theorem dL_law_972 : decode cL_law 972 = .ok (.iconst 1, 1) := by decide +kernel
theorem dL_law_973 : decode cL_law 973 = .ok (.goto 4, 3) := by decide +kernel
theorem dL_law_976 : decode cL_law 976 = .ok (.iconst 0, 1) := by decide +kernel
theorem dL_law_977 : decode cL_law 977 = .ok (.invokevirtual 104, 3) := by decide +kernel
theorem dL_law_980 : decode cL_law 980 = .ok (.if_icmp .eq 365, 3) := by decide +kernel
theorem dL_law_983 : decode cL_law 983 = .ok (.iconst 0, 1) := by decide +kernel
theorem dL_law_984 : decode cL_law 984 = .ok (.ireturn, 1) := by decide +kernel
theorem dL_law_985 : decode cL_law 985 = .ok (.aload_n 1, 1) := by decide +kernel
theorem dL_law_986 : decode cL_law 986 = .ok (.aload_n 0, 1) := by decide +kernel
theorem dL_law_987 : decode cL_law 987 = .ok (.iload_n 3, 1) := by decide +kernel
theorem dL_law_988 : decode cL_law 988 = .ok (.iconst 1, 1) := by decide +kernel
theorem dL_law_989 : decode cL_law 989 = .ok (.iadd, 1) := by decide +kernel
theorem dL_law_990 : decode cL_law 990 = .ok (.iaload, 1) := by decide +kernel
theorem dL_law_991 : decode cL_law 991 = .ok (.aload_n 0, 1) := by decide +kernel
theorem dL_law_992 : decode cL_law 992 = .ok (.iload_n 3, 1) := by decide +kernel
theorem dL_law_993 : decode cL_law 993 = .ok (.iconst 2, 1) := by decide +kernel
theorem dL_law_994 : decode cL_law 994 = .ok (.iadd, 1) := by decide +kernel
theorem dL_law_995 : decode cL_law 995 = .ok (.iaload, 1) := by decide +kernel
theorem dL_law_996 : decode cL_law 996 = .ok (.aload_n 0, 1) := by decide +kernel
theorem dL_law_997 : decode cL_law 997 = .ok (.iload_n 3, 1) := by decide +kernel
theorem dL_law_998 : decode cL_law 998 = .ok (.iconst 3, 1) := by decide +kernel
theorem dL_law_999 : decode cL_law 999 = .ok (.iadd, 1) := by decide +kernel
theorem dL_law_1000 : decode cL_law 1000 = .ok (.iaload, 1) := by decide +kernel
theorem dL_law_1001 : decode cL_law 1001 = .ok (.aload_n 0, 1) := by decide +kernel
theorem dL_law_1002 : decode cL_law 1002 = .ok (.iload_n 3, 1) := by decide +kernel
theorem dL_law_1003 : decode cL_law 1003 = .ok (.iconst 4, 1) := by decide +kernel
theorem dL_law_1004 : decode cL_law 1004 = .ok (.iadd, 1) := by decide +kernel
theorem dL_law_1005 : decode cL_law 1005 = .ok (.iaload, 1) := by decide +kernel
theorem dL_law_1006 : decode cL_law 1006 = .ok (.aload_n 0, 1) := by decide +kernel
theorem dL_law_1007 : decode cL_law 1007 = .ok (.iload_n 3, 1) := by decide +kernel
theorem dL_law_1008 : decode cL_law 1008 = .ok (.iconst 5, 1) := by decide +kernel
theorem dL_law_1009 : decode cL_law 1009 = .ok (.iadd, 1) := by decide +kernel
theorem dL_law_1010 : decode cL_law 1010 = .ok (.iaload, 1) := by decide +kernel
theorem dL_law_1011 : decode cL_law 1011 = .ok (.ifCond .eq 7, 3) := by decide +kernel
theorem dL_law_1014 : decode cL_law 1014 = .ok (.iconst 1, 1) := by decide +kernel
theorem dL_law_1015 : decode cL_law 1015 = .ok (.goto 4, 3) := by decide +kernel
theorem dL_law_1018 : decode cL_law 1018 = .ok (.iconst 0, 1) := by decide +kernel
theorem dL_law_1019 : decode cL_law 1019 = .ok (.invokevirtual 105, 3) := by decide +kernel
theorem dL_law_1022 : decode cL_law 1022 = .ok (.aload_n 2, 1) := by decide +kernel
theorem dL_law_1023 : decode cL_law 1023 = .ok (.aload_n 0, 1) := by decide +kernel
theorem dL_law_1024 : decode cL_law 1024 = .ok (.iload_n 3, 1) := by decide +kernel
theorem dL_law_1025 : decode cL_law 1025 = .ok (.iconst 1, 1) := by decide +kernel
theorem dL_law_1026 : decode cL_law 1026 = .ok (.iadd, 1) := by decide +kernel
theorem dL_law_1027 : decode cL_law 1027 = .ok (.iaload, 1) := by decide +kernel
theorem dL_law_1028 : decode cL_law 1028 = .ok (.aload_n 0, 1) := by decide +kernel
theorem dL_law_1029 : decode cL_law 1029 = .ok (.iload_n 3, 1) := by decide +kernel
theorem dL_law_1030 : decode cL_law 1030 = .ok (.iconst 2, 1) := by decide +kernel
theorem dL_law_1031 : decode cL_law 1031 = .ok (.iadd, 1) := by decide +kernel
theorem dL_law_1032 : decode cL_law 1032 = .ok (.iaload, 1) := by decide +kernel
theorem dL_law_1033 : decode cL_law 1033 = .ok (.aload_n 0, 1) := by decide +kernel
theorem dL_law_1034 : decode cL_law 1034 = .ok (.iload_n 3, 1) := by decide +kernel
theorem dL_law_1035 : decode cL_law 1035 = .ok (.iconst 3, 1) := by decide +kernel
theorem dL_law_1036 : decode cL_law 1036 = .ok (.iadd, 1) := by decide +kernel
theorem dL_law_1037 : decode cL_law 1037 = .ok (.iaload, 1) := by decide +kernel
theorem dL_law_1038 : decode cL_law 1038 = .ok (.aload_n 0, 1) := by decide +kernel
theorem dL_law_1039 : decode cL_law 1039 = .ok (.iload_n 3, 1) := by decide +kernel
theorem dL_law_1040 : decode cL_law 1040 = .ok (.iconst 4, 1) := by decide +kernel
theorem dL_law_1041 : decode cL_law 1041 = .ok (.iadd, 1) := by decide +kernel
theorem dL_law_1042 : decode cL_law 1042 = .ok (.iaload, 1) := by decide +kernel
theorem dL_law_1043 : decode cL_law 1043 = .ok (.aload_n 0, 1) := by decide +kernel
theorem dL_law_1044 : decode cL_law 1044 = .ok (.iload_n 3, 1) := by decide +kernel
theorem dL_law_1045 : decode cL_law 1045 = .ok (.iconst 5, 1) := by decide +kernel
theorem dL_law_1046 : decode cL_law 1046 = .ok (.iadd, 1) := by decide +kernel
theorem dL_law_1047 : decode cL_law 1047 = .ok (.iaload, 1) := by decide +kernel
theorem dL_law_1048 : decode cL_law 1048 = .ok (.ifCond .eq 7, 3) := by decide +kernel
theorem dL_law_1051 : decode cL_law 1051 = .ok (.iconst 1, 1) := by decide +kernel
theorem dL_law_1052 : decode cL_law 1052 = .ok (.goto 4, 3) := by decide +kernel
theorem dL_law_1055 : decode cL_law 1055 = .ok (.iconst 0, 1) := by decide +kernel
theorem dL_law_1056 : decode cL_law 1056 = .ok (.invokevirtual 109, 3) := by decide +kernel
theorem dL_law_1059 : decode cL_law 1059 = .ok (.if_icmp .eq 286, 3) := by decide +kernel
theorem dL_law_1062 : decode cL_law 1062 = .ok (.iconst 0, 1) := by decide +kernel
theorem dL_law_1063 : decode cL_law 1063 = .ok (.ireturn, 1) := by decide +kernel
theorem dL_law_1064 : decode cL_law 1064 = .ok (.aload_n 1, 1) := by decide +kernel
theorem dL_law_1065 : decode cL_law 1065 = .ok (.aload_n 0, 1) := by decide +kernel
theorem dL_law_1066 : decode cL_law 1066 = .ok (.iload_n 3, 1) := by decide +kernel
theorem dL_law_1067 : decode cL_law 1067 = .ok (.iconst 1, 1) := by decide +kernel
theorem dL_law_1068 : decode cL_law 1068 = .ok (.iadd, 1) := by decide +kernel
theorem dL_law_1069 : decode cL_law 1069 = .ok (.iaload, 1) := by decide +kernel
theorem dL_law_1070 : decode cL_law 1070 = .ok (.invokevirtual 110, 3) := by decide +kernel
theorem dL_law_1073 : decode cL_law 1073 = .ok (.aload_n 2, 1) := by decide +kernel
theorem dL_law_1074 : decode cL_law 1074 = .ok (.aload_n 0, 1) := by decide +kernel
theorem dL_law_1075 : decode cL_law 1075 = .ok (.iload_n 3, 1) := by decide +kernel
theorem dL_law_1076 : decode cL_law 1076 = .ok (.iconst 1, 1) := by decide +kernel
theorem dL_law_1077 : decode cL_law 1077 = .ok (.iadd, 1) := by decide +kernel
theorem dL_law_1078 : decode cL_law 1078 = .ok (.iaload, 1) := by decide +kernel
theorem dL_law_1079 : decode cL_law 1079 = .ok (.invokevirtual 114, 3) := by decide +kernel
theorem dL_law_1082 : decode cL_law 1082 = .ok (.lcmp, 1) := by decide +kernel
theorem dL_law_1083 : decode cL_law 1083 = .ok (.ifCond .eq 262, 3) := by decide +kernel
theorem dL_law_1086 : decode cL_law 1086 = .ok (.iconst 0, 1) := by decide +kernel
theorem dL_law_1087 : decode cL_law 1087 = .ok (.ireturn, 1) := by decide +kernel
theorem dL_law_1088 : decode cL_law 1088 = .ok (.aload_n 1, 1) := by decide +kernel
theorem dL_law_1089 : decode cL_law 1089 = .ok (.aload_n 0, 1) := by decide +kernel
theorem dL_law_1090 : decode cL_law 1090 = .ok (.iload_n 3, 1) := by decide +kernel
theorem dL_law_1091 : decode cL_law 1091 = .ok (.iconst 1, 1) := by decide +kernel
theorem dL_law_1092 : decode cL_law 1092 = .ok (.iadd, 1) := by decide +kernel
theorem dL_law_1093 : decode cL_law 1093 = .ok (.iaload, 1) := by decide +kernel
theorem dL_law_1094 : decode cL_law 1094 = .ok (.aload_n 0, 1) := by decide +kernel
theorem dL_law_1095 : decode cL_law 1095 = .ok (.iload_n 3, 1) := by decide +kernel
theorem dL_law_1096 : decode cL_law 1096 = .ok (.iconst 2, 1) := by decide +kernel
theorem dL_law_1097 : decode cL_law 1097 = .ok (.iadd, 1) := by decide +kernel
theorem dL_law_1098 : decode cL_law 1098 = .ok (.iaload, 1) := by decide +kernel
theorem dL_law_1099 : decode cL_law 1099 = .ok (.invokevirtual 115, 3) := by decide +kernel
theorem dL_law_1102 : decode cL_law 1102 = .ok (.aload_n 2, 1) := by decide +kernel
theorem dL_law_1103 : decode cL_law 1103 = .ok (.aload_n 0, 1) := by decide +kernel
theorem dL_law_1104 : decode cL_law 1104 = .ok (.iload_n 3, 1) := by decide +kernel
theorem dL_law_1105 : decode cL_law 1105 = .ok (.iconst 1, 1) := by decide +kernel
theorem dL_law_1106 : decode cL_law 1106 = .ok (.iadd, 1) := by decide +kernel
theorem dL_law_1107 : decode cL_law 1107 = .ok (.iaload, 1) := by decide +kernel
theorem dL_law_1108 : decode cL_law 1108 = .ok (.aload_n 0, 1) := by decide +kernel
theorem dL_law_1109 : decode cL_law 1109 = .ok (.iload_n 3, 1) := by decide +kernel
theorem dL_law_1110 : decode cL_law 1110 = .ok (.iconst 2, 1) := by decide +kernel
theorem dL_law_1111 : decode cL_law 1111 = .ok (.iadd, 1) := by decide +kernel
theorem dL_law_1112 : decode cL_law 1112 = .ok (.iaload, 1) := by decide +kernel
theorem dL_law_1113 : decode cL_law 1113 = .ok (.invokevirtual 118, 3) := by decide +kernel
theorem dL_law_1116 : decode cL_law 1116 = .ok (.if_icmp .eq 229, 3) := by decide +kernel
theorem dL_law_1119 : decode cL_law 1119 = .ok (.iconst 0, 1) := by decide +kernel
theorem dL_law_1120 : decode cL_law 1120 = .ok (.ireturn, 1) := by decide +kernel
theorem dL_law_1121 : decode cL_law 1121 = .ok (.aload_n 1, 1) := by decide +kernel
theorem dL_law_1122 : decode cL_law 1122 = .ok (.aload_n 0, 1) := by decide +kernel
theorem dL_law_1123 : decode cL_law 1123 = .ok (.iload_n 3, 1) := by decide +kernel
theorem dL_law_1124 : decode cL_law 1124 = .ok (.iconst 1, 1) := by decide +kernel
theorem dL_law_1125 : decode cL_law 1125 = .ok (.iadd, 1) := by decide +kernel
theorem dL_law_1126 : decode cL_law 1126 = .ok (.iaload, 1) := by decide +kernel
theorem dL_law_1127 : decode cL_law 1127 = .ok (.aload_n 0, 1) := by decide +kernel
theorem dL_law_1128 : decode cL_law 1128 = .ok (.iload_n 3, 1) := by decide +kernel
theorem dL_law_1129 : decode cL_law 1129 = .ok (.iconst 2, 1) := by decide +kernel
theorem dL_law_1130 : decode cL_law 1130 = .ok (.iadd, 1) := by decide +kernel
theorem dL_law_1131 : decode cL_law 1131 = .ok (.iaload, 1) := by decide +kernel
theorem dL_law_1132 : decode cL_law 1132 = .ok (.invokevirtual 119, 3) := by decide +kernel
theorem dL_law_1135 : decode cL_law 1135 = .ok (.aload_n 2, 1) := by decide +kernel
theorem dL_law_1136 : decode cL_law 1136 = .ok (.aload_n 0, 1) := by decide +kernel
theorem dL_law_1137 : decode cL_law 1137 = .ok (.iload_n 3, 1) := by decide +kernel
theorem dL_law_1138 : decode cL_law 1138 = .ok (.iconst 1, 1) := by decide +kernel
theorem dL_law_1139 : decode cL_law 1139 = .ok (.iadd, 1) := by decide +kernel
theorem dL_law_1140 : decode cL_law 1140 = .ok (.iaload, 1) := by decide +kernel
theorem dL_law_1141 : decode cL_law 1141 = .ok (.aload_n 0, 1) := by decide +kernel
theorem dL_law_1142 : decode cL_law 1142 = .ok (.iload_n 3, 1) := by decide +kernel
theorem dL_law_1143 : decode cL_law 1143 = .ok (.iconst 2, 1) := by decide +kernel
theorem dL_law_1144 : decode cL_law 1144 = .ok (.iadd, 1) := by decide +kernel
theorem dL_law_1145 : decode cL_law 1145 = .ok (.iaload, 1) := by decide +kernel
theorem dL_law_1146 : decode cL_law 1146 = .ok (.invokevirtual 122, 3) := by decide +kernel
theorem dL_law_1149 : decode cL_law 1149 = .ok (.if_icmp .eq 196, 3) := by decide +kernel
theorem dL_law_1152 : decode cL_law 1152 = .ok (.iconst 0, 1) := by decide +kernel
theorem dL_law_1153 : decode cL_law 1153 = .ok (.ireturn, 1) := by decide +kernel
theorem dL_law_1154 : decode cL_law 1154 = .ok (.aload_n 1, 1) := by decide +kernel
theorem dL_law_1155 : decode cL_law 1155 = .ok (.aload_n 0, 1) := by decide +kernel
theorem dL_law_1156 : decode cL_law 1156 = .ok (.iload_n 3, 1) := by decide +kernel
theorem dL_law_1157 : decode cL_law 1157 = .ok (.iconst 1, 1) := by decide +kernel
theorem dL_law_1158 : decode cL_law 1158 = .ok (.iadd, 1) := by decide +kernel
theorem dL_law_1159 : decode cL_law 1159 = .ok (.iaload, 1) := by decide +kernel
theorem dL_law_1160 : decode cL_law 1160 = .ok (.invokevirtual 123, 3) := by decide +kernel
theorem dL_law_1163 : decode cL_law 1163 = .ok (.aload_n 2, 1) := by decide +kernel
theorem dL_law_1164 : decode cL_law 1164 = .ok (.aload_n 0, 1) := by decide +kernel
theorem dL_law_1165 : decode cL_law 1165 = .ok (.iload_n 3, 1) := by decide +kernel
theorem dL_law_1166 : decode cL_law 1166 = .ok (.iconst 1, 1) := by decide +kernel
theorem dL_law_1167 : decode cL_law 1167 = .ok (.iadd, 1) := by decide +kernel
theorem dL_law_1168 : decode cL_law 1168 = .ok (.iaload, 1) := by decide +kernel
theorem dL_law_1169 : decode cL_law 1169 = .ok (.invokevirtual 126, 3) := by decide +kernel
theorem dL_law_1172 : decode cL_law 1172 = .ok (.if_icmp .eq 173, 3) := by decide +kernel
theorem dL_law_1175 : decode cL_law 1175 = .ok (.iconst 0, 1) := by decide +kernel
theorem dL_law_1176 : decode cL_law 1176 = .ok (.ireturn, 1) := by decide +kernel
theorem dL_law_1177 : decode cL_law 1177 = .ok (.aload_n 1, 1) := by decide +kernel
theorem dL_law_1178 : decode cL_law 1178 = .ok (.aload_n 0, 1) := by decide +kernel
theorem dL_law_1179 : decode cL_law 1179 = .ok (.iload_n 3, 1) := by decide +kernel
theorem dL_law_1180 : decode cL_law 1180 = .ok (.iconst 1, 1) := by decide +kernel
theorem dL_law_1181 : decode cL_law 1181 = .ok (.iadd, 1) := by decide +kernel
theorem dL_law_1182 : decode cL_law 1182 = .ok (.iaload, 1) := by decide +kernel
theorem dL_law_1183 : decode cL_law 1183 = .ok (.invokevirtual 127, 3) := by decide +kernel
theorem dL_law_1186 : decode cL_law 1186 = .ok (.aload_n 2, 1) := by decide +kernel
theorem dL_law_1187 : decode cL_law 1187 = .ok (.aload_n 0, 1) := by decide +kernel
theorem dL_law_1188 : decode cL_law 1188 = .ok (.iload_n 3, 1) := by decide +kernel
theorem dL_law_1189 : decode cL_law 1189 = .ok (.iconst 1, 1) := by decide +kernel
theorem dL_law_1190 : decode cL_law 1190 = .ok (.iadd, 1) := by decide +kernel
theorem dL_law_1191 : decode cL_law 1191 = .ok (.iaload, 1) := by decide +kernel
theorem dL_law_1192 : decode cL_law 1192 = .ok (.invokevirtual 130, 3) := by decide +kernel
theorem dL_law_1195 : decode cL_law 1195 = .ok (.if_icmp .eq 150, 3) := by decide +kernel
theorem dL_law_1198 : decode cL_law 1198 = .ok (.iconst 0, 1) := by decide +kernel
theorem dL_law_1199 : decode cL_law 1199 = .ok (.ireturn, 1) := by decide +kernel
theorem dL_law_1200 : decode cL_law 1200 = .ok (.aload_n 1, 1) := by decide +kernel
theorem dL_law_1201 : decode cL_law 1201 = .ok (.invokevirtual 131, 3) := by decide +kernel
theorem dL_law_1204 : decode cL_law 1204 = .ok (.aload_n 2, 1) := by decide +kernel
theorem dL_law_1205 : decode cL_law 1205 = .ok (.invokevirtual 134, 3) := by decide +kernel
theorem dL_law_1208 : decode cL_law 1208 = .ok (.if_icmp .eq 137, 3) := by decide +kernel
theorem dL_law_1211 : decode cL_law 1211 = .ok (.iconst 0, 1) := by decide +kernel
theorem dL_law_1212 : decode cL_law 1212 = .ok (.ireturn, 1) := by decide +kernel
theorem dL_law_1213 : decode cL_law 1213 = .ok (.aload_n 1, 1) := by decide +kernel
theorem dL_law_1214 : decode cL_law 1214 = .ok (.invokevirtual 135, 3) := by decide +kernel
theorem dL_law_1217 : decode cL_law 1217 = .ok (.aload_n 2, 1) := by decide +kernel
theorem dL_law_1218 : decode cL_law 1218 = .ok (.invokevirtual 138, 3) := by decide +kernel
theorem dL_law_1221 : decode cL_law 1221 = .ok (.if_icmp .eq 124, 3) := by decide +kernel
theorem dL_law_1224 : decode cL_law 1224 = .ok (.iconst 0, 1) := by decide +kernel
theorem dL_law_1225 : decode cL_law 1225 = .ok (.ireturn, 1) := by decide +kernel
theorem dL_law_1226 : decode cL_law 1226 = .ok (.aload_n 1, 1) := by decide +kernel
theorem dL_law_1227 : decode cL_law 1227 = .ok (.invokevirtual 139, 3) := by decide +kernel
theorem dL_law_1230 : decode cL_law 1230 = .ok (.aload_n 2, 1) := by decide +kernel
theorem dL_law_1231 : decode cL_law 1231 = .ok (.invokevirtual 142, 3) := by decide +kernel
theorem dL_law_1234 : decode cL_law 1234 = .ok (.if_icmp .eq 111, 3) := by decide +kernel
theorem dL_law_1237 : decode cL_law 1237 = .ok (.iconst 0, 1) := by decide +kernel
theorem dL_law_1238 : decode cL_law 1238 = .ok (.ireturn, 1) := by decide +kernel
theorem dL_law_1239 : decode cL_law 1239 = .ok (.aload_n 1, 1) := by decide +kernel
theorem dL_law_1240 : decode cL_law 1240 = .ok (.aload_n 0, 1) := by decide +kernel
theorem dL_law_1241 : decode cL_law 1241 = .ok (.iload_n 3, 1) := by decide +kernel
theorem dL_law_1242 : decode cL_law 1242 = .ok (.iconst 1, 1) := by decide +kernel
theorem dL_law_1243 : decode cL_law 1243 = .ok (.iadd, 1) := by decide +kernel
theorem dL_law_1244 : decode cL_law 1244 = .ok (.iaload, 1) := by decide +kernel
theorem dL_law_1245 : decode cL_law 1245 = .ok (.invokevirtual 143, 3) := by decide +kernel
theorem dL_law_1248 : decode cL_law 1248 = .ok (.aload_n 2, 1) := by decide +kernel
theorem dL_law_1249 : decode cL_law 1249 = .ok (.aload_n 0, 1) := by decide +kernel
theorem dL_law_1250 : decode cL_law 1250 = .ok (.iload_n 3, 1) := by decide +kernel
theorem dL_law_1251 : decode cL_law 1251 = .ok (.iconst 1, 1) := by decide +kernel
theorem dL_law_1252 : decode cL_law 1252 = .ok (.iadd, 1) := by decide +kernel
theorem dL_law_1253 : decode cL_law 1253 = .ok (.iaload, 1) := by decide +kernel
theorem dL_law_1254 : decode cL_law 1254 = .ok (.invokevirtual 146, 3) := by decide +kernel
theorem dL_law_1257 : decode cL_law 1257 = .ok (.if_icmp .eq 88, 3) := by decide +kernel
theorem dL_law_1260 : decode cL_law 1260 = .ok (.iconst 0, 1) := by decide +kernel
theorem dL_law_1261 : decode cL_law 1261 = .ok (.ireturn, 1) := by decide +kernel
theorem dL_law_1262 : decode cL_law 1262 = .ok (.aload_n 1, 1) := by decide +kernel
theorem dL_law_1263 : decode cL_law 1263 = .ok (.aload_n 0, 1) := by decide +kernel
theorem dL_law_1264 : decode cL_law 1264 = .ok (.iload_n 3, 1) := by decide +kernel
theorem dL_law_1265 : decode cL_law 1265 = .ok (.iconst 1, 1) := by decide +kernel
theorem dL_law_1266 : decode cL_law 1266 = .ok (.iadd, 1) := by decide +kernel
theorem dL_law_1267 : decode cL_law 1267 = .ok (.iaload, 1) := by decide +kernel
theorem dL_law_1268 : decode cL_law 1268 = .ok (.invokevirtual 147, 3) := by decide +kernel
theorem dL_law_1271 : decode cL_law 1271 = .ok (.aload_n 2, 1) := by decide +kernel
theorem dL_law_1272 : decode cL_law 1272 = .ok (.aload_n 0, 1) := by decide +kernel
theorem dL_law_1273 : decode cL_law 1273 = .ok (.iload_n 3, 1) := by decide +kernel
theorem dL_law_1274 : decode cL_law 1274 = .ok (.iconst 1, 1) := by decide +kernel
theorem dL_law_1275 : decode cL_law 1275 = .ok (.iadd, 1) := by decide +kernel
theorem dL_law_1276 : decode cL_law 1276 = .ok (.iaload, 1) := by decide +kernel
theorem dL_law_1277 : decode cL_law 1277 = .ok (.invokevirtual 150, 3) := by decide +kernel
theorem dL_law_1280 : decode cL_law 1280 = .ok (.if_icmp .eq 65, 3) := by decide +kernel
theorem dL_law_1283 : decode cL_law 1283 = .ok (.iconst 0, 1) := by decide +kernel
theorem dL_law_1284 : decode cL_law 1284 = .ok (.ireturn, 1) := by decide +kernel
theorem dL_law_1285 : decode cL_law 1285 = .ok (.aload_n 1, 1) := by decide +kernel
theorem dL_law_1286 : decode cL_law 1286 = .ok (.aload_n 0, 1) := by decide +kernel
theorem dL_law_1287 : decode cL_law 1287 = .ok (.iload_n 3, 1) := by decide +kernel
theorem dL_law_1288 : decode cL_law 1288 = .ok (.iconst 1, 1) := by decide +kernel
theorem dL_law_1289 : decode cL_law 1289 = .ok (.iadd, 1) := by decide +kernel
theorem dL_law_1290 : decode cL_law 1290 = .ok (.iaload, 1) := by decide +kernel
theorem dL_law_1291 : decode cL_law 1291 = .ok (.invokevirtual 151, 3) := by decide +kernel
theorem dL_law_1294 : decode cL_law 1294 = .ok (.aload_n 2, 1) := by decide +kernel
theorem dL_law_1295 : decode cL_law 1295 = .ok (.aload_n 0, 1) := by decide +kernel
theorem dL_law_1296 : decode cL_law 1296 = .ok (.iload_n 3, 1) := by decide +kernel
theorem dL_law_1297 : decode cL_law 1297 = .ok (.iconst 1, 1) := by decide +kernel
theorem dL_law_1298 : decode cL_law 1298 = .ok (.iadd, 1) := by decide +kernel
theorem dL_law_1299 : decode cL_law 1299 = .ok (.iaload, 1) := by decide +kernel
theorem dL_law_1300 : decode cL_law 1300 = .ok (.invokevirtual 154, 3) := by decide +kernel
theorem dL_law_1303 : decode cL_law 1303 = .ok (.if_icmp .eq 42, 3) := by decide +kernel
theorem dL_law_1306 : decode cL_law 1306 = .ok (.iconst 0, 1) := by decide +kernel
theorem dL_law_1307 : decode cL_law 1307 = .ok (.ireturn, 1) := by decide +kernel
theorem dL_law_1308 : decode cL_law 1308 = .ok (.aload_n 1, 1) := by decide +kernel
theorem dL_law_1309 : decode cL_law 1309 = .ok (.aload_n 0, 1) := by decide +kernel
theorem dL_law_1310 : decode cL_law 1310 = .ok (.iload_n 3, 1) := by decide +kernel
theorem dL_law_1311 : decode cL_law 1311 = .ok (.iconst 1, 1) := by decide +kernel
theorem dL_law_1312 : decode cL_law 1312 = .ok (.iadd, 1) := by decide +kernel
theorem dL_law_1313 : decode cL_law 1313 = .ok (.iaload, 1) := by decide +kernel
theorem dL_law_1314 : decode cL_law 1314 = .ok (.invokevirtual 155, 3) := by decide +kernel
theorem dL_law_1317 : decode cL_law 1317 = .ok (.aload_n 2, 1) := by decide +kernel
theorem dL_law_1318 : decode cL_law 1318 = .ok (.aload_n 0, 1) := by decide +kernel
theorem dL_law_1319 : decode cL_law 1319 = .ok (.iload_n 3, 1) := by decide +kernel
theorem dL_law_1320 : decode cL_law 1320 = .ok (.iconst 1, 1) := by decide +kernel
theorem dL_law_1321 : decode cL_law 1321 = .ok (.iadd, 1) := by decide +kernel
theorem dL_law_1322 : decode cL_law 1322 = .ok (.iaload, 1) := by decide +kernel
theorem dL_law_1323 : decode cL_law 1323 = .ok (.invokevirtual 158, 3) := by decide +kernel
theorem dL_law_1326 : decode cL_law 1326 = .ok (.if_icmp .eq 19, 3) := by decide +kernel
theorem dL_law_1329 : decode cL_law 1329 = .ok (.iconst 0, 1) := by decide +kernel
theorem dL_law_1330 : decode cL_law 1330 = .ok (.ireturn, 1) := by decide +kernel
theorem dL_law_1331 : decode cL_law 1331 = .ok (.aload_n 1, 1) := by decide +kernel
theorem dL_law_1332 : decode cL_law 1332 = .ok (.invokevirtual 159, 3) := by decide +kernel
theorem dL_law_1335 : decode cL_law 1335 = .ok (.aload_n 2, 1) := by decide +kernel
theorem dL_law_1336 : decode cL_law 1336 = .ok (.invokevirtual 163, 3) := by decide +kernel
theorem dL_law_1339 : decode cL_law 1339 = .ok (.lcmp, 1) := by decide +kernel
theorem dL_law_1340 : decode cL_law 1340 = .ok (.ifCond .eq 5, 3) := by decide +kernel
theorem dL_law_1343 : decode cL_law 1343 = .ok (.iconst 0, 1) := by decide +kernel
theorem dL_law_1344 : decode cL_law 1344 = .ok (.ireturn, 1) := by decide +kernel
theorem dL_law_1345 : decode cL_law 1345 = .ok (.iinc 3 7, 3) := by decide +kernel
theorem dL_law_1348 : decode cL_law 1348 = .ok (.goto (-1330), 3) := by decide +kernel
theorem dL_law_1351 : decode cL_law 1351 = .ok (.iconst 1, 1) := by decide +kernel
theorem dL_law_1352 : decode cL_law 1352 = .ok (.ireturn, 1) := by decide +kernel
