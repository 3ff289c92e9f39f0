theorem dX0_init_0 : decode cX0_init 0 = .ok (.aload_n 0, 1) := by decide +kernel
theorem dX0_init_1 : decode cX0_init 1 = .ok (.invokespecial 3, 3) := by decide +kernel
theorem dX0_init_4 : decode cX0_init 4 = .ok (.return_, 1) := by decide +kernel
theorem dX0_make_0 : decode cX0_make 0 = .ok (.aload_n 1, 1) := by decide +kernel
theorem dX0_make_1 : decode cX0_make 1 = .ok (.iload_n 2, 1) := by decide +kernel
theorem dX0_make_2 : decode cX0_make 2 = .ok (.iconst 0, 1) := by decide +kernel
theorem dX0_make_3 : decode cX0_make 3 = .ok (.iload 4, 2) := by decide +kernel
theorem dX0_make_5 : decode cX0_make 5 = .ok (.iadd, 1) := by decide +kernel
theorem dX0_make_6 : decode cX0_make 6 = .ok (.invokevirtual 9, 3) := by decide +kernel
theorem dX0_make_9 : decode cX0_make 9 = .ok (.i2l, 1) := by decide +kernel
theorem dX0_make_10 : decode cX0_make 10 = .ok (.lstore 7, 2) := by decide +kernel
theorem dX0_make_12 : decode cX0_make 12 = .ok (.lload 7, 2) := by decide +kernel
theorem dX0_make_14 : decode cX0_make 14 = .ok (.aload_n 1, 1) := by decide +kernel
theorem dX0_make_15 : decode cX0_make 15 = .ok (.iload_n 2, 1) := by decide +kernel
theorem dX0_make_16 : decode cX0_make 16 = .ok (.iconst 4, 1) := by decide +kernel
theorem dX0_make_17 : decode cX0_make 17 = .ok (.iload 4, 2) := by decide +kernel
theorem dX0_make_19 : decode cX0_make 19 = .ok (.iadd, 1) := by decide +kernel
theorem dX0_make_20 : decode cX0_make 20 = .ok (.invokevirtual 9, 3) := by decide +kernel
theorem dX0_make_23 : decode cX0_make 23 = .ok (.i2l, 1) := by decide +kernel
theorem dX0_make_24 : decode cX0_make 24 = .ok (.ladd, 1) := by decide +kernel
theorem dX0_make_25 : decode cX0_make 25 = .ok (.lstore 9, 2) := by decide +kernel
theorem dX0_make_27 : decode cX0_make 27 = .ok (.aload_n 1, 1) := by decide +kernel
theorem dX0_make_28 : decode cX0_make 28 = .ok (.iload_n 3, 1) := by decide +kernel
theorem dX0_make_29 : decode cX0_make 29 = .ok (.iconst 0, 1) := by decide +kernel
theorem dX0_make_30 : decode cX0_make 30 = .ok (.iload 4, 2) := by decide +kernel
theorem dX0_make_32 : decode cX0_make 32 = .ok (.iadd, 1) := by decide +kernel
theorem dX0_make_33 : decode cX0_make 33 = .ok (.invokevirtual 9, 3) := by decide +kernel
theorem dX0_make_36 : decode cX0_make 36 = .ok (.i2l, 1) := by decide +kernel
theorem dX0_make_37 : decode cX0_make 37 = .ok (.lstore 11, 2) := by decide +kernel
theorem dX0_make_39 : decode cX0_make 39 = .ok (.lload 11, 2) := by decide +kernel
theorem dX0_make_41 : decode cX0_make 41 = .ok (.aload_n 1, 1) := by decide +kernel
theorem dX0_make_42 : decode cX0_make 42 = .ok (.iload_n 3, 1) := by decide +kernel
theorem dX0_make_43 : decode cX0_make 43 = .ok (.iconst 2, 1) := by decide +kernel
theorem dX0_make_44 : decode cX0_make 44 = .ok (.iload 4, 2) := by decide +kernel
theorem dX0_make_46 : decode cX0_make 46 = .ok (.iadd, 1) := by decide +kernel
theorem dX0_make_47 : decode cX0_make 47 = .ok (.invokevirtual 9, 3) := by decide +kernel
theorem dX0_make_50 : decode cX0_make 50 = .ok (.i2l, 1) := by decide +kernel
theorem dX0_make_51 : decode cX0_make 51 = .ok (.ladd, 1) := by decide +kernel
theorem dX0_make_52 : decode cX0_make 52 = .ok (.lstore 13, 2) := by decide +kernel
theorem dX0_make_54 : decode cX0_make 54 = .ok (.iload 6, 2) := by decide +kernel
theorem dX0_make_56 : decode cX0_make 56 = .ok (.iload 5, 2) := by decide +kernel
theorem dX0_make_58 : decode cX0_make 58 = .ok (.isub, 1) := by decide +kernel
theorem dX0_make_59 : decode cX0_make 59 = .ok (.i2l, 1) := by decide +kernel
theorem dX0_make_60 : decode cX0_make 60 = .ok (.lstore 15, 2) := by decide +kernel
theorem dX0_make_62 : decode cX0_make 62 = .ok (.lload 7, 2) := by decide +kernel
theorem dX0_make_64 : decode cX0_make 64 = .ok (.lload 15, 2) := by decide +kernel
theorem dX0_make_66 : decode cX0_make 66 = .ok (.lmul, 1) := by decide +kernel
theorem dX0_make_67 : decode cX0_make 67 = .ok (.lload 9, 2) := by decide +kernel
theorem dX0_make_69 : decode cX0_make 69 = .ok (.iload 5, 2) := by decide +kernel
theorem dX0_make_71 : decode cX0_make 71 = .ok (.i2l, 1) := by decide +kernel
theorem dX0_make_72 : decode cX0_make 72 = .ok (.lmul, 1) := by decide +kernel
theorem dX0_make_73 : decode cX0_make 73 = .ok (.ladd, 1) := by decide +kernel
theorem dX0_make_74 : decode cX0_make 74 = .ok (.lstore 17, 2) := by decide +kernel
theorem dX0_make_76 : decode cX0_make 76 = .ok (.lload 9, 2) := by decide +kernel
theorem dX0_make_78 : decode cX0_make 78 = .ok (.lload 15, 2) := by decide +kernel
theorem dX0_make_80 : decode cX0_make 80 = .ok (.lmul, 1) := by decide +kernel
theorem dX0_make_81 : decode cX0_make 81 = .ok (.lload 13, 2) := by decide +kernel
theorem dX0_make_83 : decode cX0_make 83 = .ok (.iload 5, 2) := by decide +kernel
theorem dX0_make_85 : decode cX0_make 85 = .ok (.i2l, 1) := by decide +kernel
theorem dX0_make_86 : decode cX0_make 86 = .ok (.lmul, 1) := by decide +kernel
theorem dX0_make_87 : decode cX0_make 87 = .ok (.ladd, 1) := by decide +kernel
theorem dX0_make_88 : decode cX0_make 88 = .ok (.lstore 19, 2) := by decide +kernel
theorem dX0_make_90 : decode cX0_make 90 = .ok (.lload 13, 2) := by decide +kernel
theorem dX0_make_92 : decode cX0_make 92 = .ok (.lload 15, 2) := by decide +kernel
theorem dX0_make_94 : decode cX0_make 94 = .ok (.lmul, 1) := by decide +kernel
theorem dX0_make_95 : decode cX0_make 95 = .ok (.lload 11, 2) := by decide +kernel
theorem dX0_make_97 : decode cX0_make 97 = .ok (.iload 5, 2) := by decide +kernel
theorem dX0_make_99 : decode cX0_make 99 = .ok (.i2l, 1) := by decide +kernel
theorem dX0_make_100 : decode cX0_make 100 = .ok (.lmul, 1) := by decide +kernel
theorem dX0_make_101 : decode cX0_make 101 = .ok (.ladd, 1) := by decide +kernel
theorem dX0_make_102 : decode cX0_make 102 = .ok (.lstore 21, 2) := by decide +kernel
theorem dX0_make_104 : decode cX0_make 104 = .ok (.aload_n 0, 1) := by decide +kernel
theorem dX0_make_105 : decode cX0_make 105 = .ok (.lload 17, 2) := by decide +kernel
theorem dX0_make_107 : decode cX0_make 107 = .ok (.lload 15, 2) := by decide +kernel
theorem dX0_make_109 : decode cX0_make 109 = .ok (.lmul, 1) := by decide +kernel
theorem dX0_make_110 : decode cX0_make 110 = .ok (.lload 19, 2) := by decide +kernel
theorem dX0_make_112 : decode cX0_make 112 = .ok (.iload 5, 2) := by decide +kernel
theorem dX0_make_114 : decode cX0_make 114 = .ok (.i2l, 1) := by decide +kernel
theorem dX0_make_115 : decode cX0_make 115 = .ok (.lmul, 1) := by decide +kernel
theorem dX0_make_116 : decode cX0_make 116 = .ok (.ladd, 1) := by decide +kernel
theorem dX0_make_117 : decode cX0_make 117 = .ok (.putfield 15, 3) := by decide +kernel
theorem dX0_make_120 : decode cX0_make 120 = .ok (.aload_n 0, 1) := by decide +kernel
theorem dX0_make_121 : decode cX0_make 121 = .ok (.lload 19, 2) := by decide +kernel
theorem dX0_make_123 : decode cX0_make 123 = .ok (.lload 15, 2) := by decide +kernel
theorem dX0_make_125 : decode cX0_make 125 = .ok (.lmul, 1) := by decide +kernel
theorem dX0_make_126 : decode cX0_make 126 = .ok (.lload 21, 2) := by decide +kernel
theorem dX0_make_128 : decode cX0_make 128 = .ok (.iload 5, 2) := by decide +kernel
theorem dX0_make_130 : decode cX0_make 130 = .ok (.i2l, 1) := by decide +kernel
theorem dX0_make_131 : decode cX0_make 131 = .ok (.lmul, 1) := by decide +kernel
theorem dX0_make_132 : decode cX0_make 132 = .ok (.ladd, 1) := by decide +kernel
theorem dX0_make_133 : decode cX0_make 133 = .ok (.putfield 21, 3) := by decide +kernel
theorem dX0_make_136 : decode cX0_make 136 = .ok (.aload_n 0, 1) := by decide +kernel
theorem dX0_make_137 : decode cX0_make 137 = .ok (.aload_n 0, 1) := by decide +kernel
theorem dX0_make_138 : decode cX0_make 138 = .ok (.getfield 15, 3) := by decide +kernel
theorem dX0_make_141 : decode cX0_make 141 = .ok (.lload 15, 2) := by decide +kernel
theorem dX0_make_143 : decode cX0_make 143 = .ok (.lmul, 1) := by decide +kernel
theorem dX0_make_144 : decode cX0_make 144 = .ok (.aload_n 0, 1) := by decide +kernel
theorem dX0_make_145 : decode cX0_make 145 = .ok (.getfield 21, 3) := by decide +kernel
theorem dX0_make_148 : decode cX0_make 148 = .ok (.iload 5, 2) := by decide +kernel
theorem dX0_make_150 : decode cX0_make 150 = .ok (.i2l, 1) := by decide +kernel
theorem dX0_make_151 : decode cX0_make 151 = .ok (.lmul, 1) := by decide +kernel
theorem dX0_make_152 : decode cX0_make 152 = .ok (.ladd, 1) := by decide +kernel
theorem dX0_make_153 : decode cX0_make 153 = .ok (.putfield 24, 3) := by decide +kernel
theorem dX0_make_156 : decode cX0_make 156 = .ok (.return_, 1) := by decide +kernel
theorem dX1_init_0 : decode cX1_init 0 = .ok (.aload_n 0, 1) := by decide +kernel
theorem dX1_init_1 : decode cX1_init 1 = .ok (.invokespecial 3, 3) := by decide +kernel
theorem dX1_init_4 : decode cX1_init 4 = .ok (.aload_n 0, 1) := by decide +kernel
theorem dX1_init_5 : decode cX1_init 5 = .ok (.bipush 11, 2) := by decide +kernel
theorem dX1_init_7 : decode cX1_init 7 = .ok (.anewarray 11, 3) := by decide +kernel
theorem dX1_init_10 : decode cX1_init 10 = .ok (.putfield 13, 3) := by decide +kernel
theorem dX1_init_13 : decode cX1_init 13 = .ok (.aload_n 0, 1) := by decide +kernel
theorem dX1_init_14 : decode cX1_init 14 = .ok (.new 11, 3) := by decide +kernel
theorem dX1_init_17 : decode cX1_init 17 = .ok (.dup, 1) := by decide +kernel
theorem dX1_init_18 : decode cX1_init 18 = .ok (.invokespecial 17, 3) := by decide +kernel
theorem dX1_init_21 : decode cX1_init 21 = .ok (.putfield 18, 3) := by decide +kernel
theorem dX1_init_24 : decode cX1_init 24 = .ok (.iconst 0, 1) := by decide +kernel
theorem dX1_init_25 : decode cX1_init 25 = .ok (.istore_n 1, 1) := by decide +kernel
theorem dX1_init_26 : decode cX1_init 26 = .ok (.iload_n 1, 1) := by decide +kernel
theorem dX1_init_27 : decode cX1_init 27 = .ok (.bipush 11, 2) := by decide +kernel
theorem dX1_init_29 : decode cX1_init 29 = .ok (.if_icmp .ge 22, 3) := by decide +kernel
theorem dX1_init_32 : decode cX1_init 32 = .ok (.aload_n 0, 1) := by decide +kernel
theorem dX1_init_33 : decode cX1_init 33 = .ok (.getfield 13, 3) := by decide +kernel
theorem dX1_init_36 : decode cX1_init 36 = .ok (.iload_n 1, 1) := by decide +kernel
theorem dX1_init_37 : decode cX1_init 37 = .ok (.new 11, 3) := by decide +kernel
theorem dX1_init_40 : decode cX1_init 40 = .ok (.dup, 1) := by decide +kernel
theorem dX1_init_41 : decode cX1_init 41 = .ok (.invokespecial 17, 3) := by decide +kernel
theorem dX1_init_44 : decode cX1_init 44 = .ok (.aastore, 1) := by decide +kernel
theorem dX1_init_45 : decode cX1_init 45 = .ok (.iinc 1 1, 3) := by decide +kernel
theorem dX1_init_48 : decode cX1_init 48 = .ok (.goto (-22), 3) := by decide +kernel
theorem dX1_init_51 : decode cX1_init 51 = .ok (.return_, 1) := by decide +kernel
theorem dX1_now_0 : decode cX1_now 0 = .ok (.aload_n 0, 1) := by decide +kernel
theorem dX1_now_1 : decode cX1_now 1 = .ok (.getfield 13, 3) := by decide +kernel
theorem dX1_now_4 : decode cX1_now 4 = .ok (.aload_n 0, 1) := by decide +kernel
theorem dX1_now_5 : decode cX1_now 5 = .ok (.getfield 22, 3) := by decide +kernel
theorem dX1_now_8 : decode cX1_now 8 = .ok (.aaload, 1) := by decide +kernel
theorem dX1_now_9 : decode cX1_now 9 = .ok (.areturn, 1) := by decide +kernel
theorem dX1_draftOfNow_0 : decode cX1_draftOfNow 0 = .ok (.aload_n 0, 1) := by decide +kernel
theorem dX1_draftOfNow_1 : decode cX1_draftOfNow 1 = .ok (.getfield 18, 3) := by decide +kernel
theorem dX1_draftOfNow_4 : decode cX1_draftOfNow 4 = .ok (.aload_n 0, 1) := by decide +kernel
theorem dX1_draftOfNow_5 : decode cX1_draftOfNow 5 = .ok (.invokevirtual 26, 3) := by decide +kernel
theorem dX1_draftOfNow_8 : decode cX1_draftOfNow 8 = .ok (.invokevirtual 30, 3) := by decide +kernel
theorem dX1_draftOfNow_11 : decode cX1_draftOfNow 11 = .ok (.aload_n 0, 1) := by decide +kernel
theorem dX1_draftOfNow_12 : decode cX1_draftOfNow 12 = .ok (.getfield 18, 3) := by decide +kernel
theorem dX1_draftOfNow_15 : decode cX1_draftOfNow 15 = .ok (.areturn, 1) := by decide +kernel
theorem dX1_takeDraft_0 : decode cX1_takeDraft 0 = .ok (.aload_n 0, 1) := by decide +kernel
theorem dX1_takeDraft_1 : decode cX1_takeDraft 1 = .ok (.aload_n 0, 1) := by decide +kernel
theorem dX1_takeDraft_2 : decode cX1_takeDraft 2 = .ok (.getfield 22, 3) := by decide +kernel
theorem dX1_takeDraft_5 : decode cX1_takeDraft 5 = .ok (.iconst 1, 1) := by decide +kernel
theorem dX1_takeDraft_6 : decode cX1_takeDraft 6 = .ok (.iadd, 1) := by decide +kernel
theorem dX1_takeDraft_7 : decode cX1_takeDraft 7 = .ok (.bipush 11, 2) := by decide +kernel
theorem dX1_takeDraft_9 : decode cX1_takeDraft 9 = .ok (.irem, 1) := by decide +kernel
theorem dX1_takeDraft_10 : decode cX1_takeDraft 10 = .ok (.putfield 22, 3) := by decide +kernel
theorem dX1_takeDraft_13 : decode cX1_takeDraft 13 = .ok (.aload_n 0, 1) := by decide +kernel
theorem dX1_takeDraft_14 : decode cX1_takeDraft 14 = .ok (.getfield 13, 3) := by decide +kernel
theorem dX1_takeDraft_17 : decode cX1_takeDraft 17 = .ok (.aload_n 0, 1) := by decide +kernel
theorem dX1_takeDraft_18 : decode cX1_takeDraft 18 = .ok (.getfield 22, 3) := by decide +kernel
theorem dX1_takeDraft_21 : decode cX1_takeDraft 21 = .ok (.aaload, 1) := by decide +kernel
theorem dX1_takeDraft_22 : decode cX1_takeDraft 22 = .ok (.astore_n 1, 1) := by decide +kernel
theorem dX1_takeDraft_23 : decode cX1_takeDraft 23 = .ok (.aload_n 0, 1) := by decide +kernel
theorem dX1_takeDraft_24 : decode cX1_takeDraft 24 = .ok (.getfield 13, 3) := by decide +kernel
theorem dX1_takeDraft_27 : decode cX1_takeDraft 27 = .ok (.aload_n 0, 1) := by decide +kernel
theorem dX1_takeDraft_28 : decode cX1_takeDraft 28 = .ok (.getfield 22, 3) := by decide +kernel
theorem dX1_takeDraft_31 : decode cX1_takeDraft 31 = .ok (.aload_n 0, 1) := by decide +kernel
theorem dX1_takeDraft_32 : decode cX1_takeDraft 32 = .ok (.getfield 18, 3) := by decide +kernel
theorem dX1_takeDraft_35 : decode cX1_takeDraft 35 = .ok (.aastore, 1) := by decide +kernel
theorem dX1_takeDraft_36 : decode cX1_takeDraft 36 = .ok (.aload_n 0, 1) := by decide +kernel
theorem dX1_takeDraft_37 : decode cX1_takeDraft 37 = .ok (.aload_n 1, 1) := by decide +kernel
theorem dX1_takeDraft_38 : decode cX1_takeDraft 38 = .ok (.putfield 18, 3) := by decide +kernel
theorem dX1_takeDraft_41 : decode cX1_takeDraft 41 = .ok (.aload_n 0, 1) := by decide +kernel
theorem dX1_takeDraft_42 : decode cX1_takeDraft 42 = .ok (.aload_n 0, 1) := by decide +kernel
theorem dX1_takeDraft_43 : decode cX1_takeDraft 43 = .ok (.getfield 34, 3) := by decide +kernel
theorem dX1_takeDraft_46 : decode cX1_takeDraft 46 = .ok (.iconst 1, 1) := by decide +kernel
theorem dX1_takeDraft_47 : decode cX1_takeDraft 47 = .ok (.iadd, 1) := by decide +kernel
theorem dX1_takeDraft_48 : decode cX1_takeDraft 48 = .ok (.bipush 10, 2) := by decide +kernel
theorem dX1_takeDraft_50 : decode cX1_takeDraft 50 = .ok (.invokestatic 37, 3) := by decide +kernel
theorem dX1_takeDraft_53 : decode cX1_takeDraft 53 = .ok (.putfield 34, 3) := by decide +kernel
theorem dX1_takeDraft_56 : decode cX1_takeDraft 56 = .ok (.aload_n 0, 1) := by decide +kernel
theorem dX1_takeDraft_57 : decode cX1_takeDraft 57 = .ok (.iconst 0, 1) := by decide +kernel
theorem dX1_takeDraft_58 : decode cX1_takeDraft 58 = .ok (.putfield 43, 3) := by decide +kernel
theorem dX1_takeDraft_61 : decode cX1_takeDraft 61 = .ok (.return_, 1) := by decide +kernel
theorem dX1_stepBack_0 : decode cX1_stepBack 0 = .ok (.aload_n 0, 1) := by decide +kernel
theorem dX1_stepBack_1 : decode cX1_stepBack 1 = .ok (.aload_n 0, 1) := by decide +kernel
theorem dX1_stepBack_2 : decode cX1_stepBack 2 = .ok (.getfield 22, 3) := by decide +kernel
theorem dX1_stepBack_5 : decode cX1_stepBack 5 = .ok (.bipush 11, 2) := by decide +kernel
theorem dX1_stepBack_7 : decode cX1_stepBack 7 = .ok (.iadd, 1) := by decide +kernel
theorem dX1_stepBack_8 : decode cX1_stepBack 8 = .ok (.iconst 1, 1) := by decide +kernel
theorem dX1_stepBack_9 : decode cX1_stepBack 9 = .ok (.isub, 1) := by decide +kernel
theorem dX1_stepBack_10 : decode cX1_stepBack 10 = .ok (.bipush 11, 2) := by decide +kernel
theorem dX1_stepBack_12 : decode cX1_stepBack 12 = .ok (.irem, 1) := by decide +kernel
theorem dX1_stepBack_13 : decode cX1_stepBack 13 = .ok (.putfield 22, 3) := by decide +kernel
theorem dX1_stepBack_16 : decode cX1_stepBack 16 = .ok (.aload_n 0, 1) := by decide +kernel
theorem dX1_stepBack_17 : decode cX1_stepBack 17 = .ok (.dup, 1) := by decide +kernel
theorem dX1_stepBack_18 : decode cX1_stepBack 18 = .ok (.getfield 34, 3) := by decide +kernel
theorem dX1_stepBack_21 : decode cX1_stepBack 21 = .ok (.iconst 1, 1) := by decide +kernel
theorem dX1_stepBack_22 : decode cX1_stepBack 22 = .ok (.isub, 1) := by decide +kernel
theorem dX1_stepBack_23 : decode cX1_stepBack 23 = .ok (.putfield 34, 3) := by decide +kernel
theorem dX1_stepBack_26 : decode cX1_stepBack 26 = .ok (.aload_n 0, 1) := by decide +kernel
theorem dX1_stepBack_27 : decode cX1_stepBack 27 = .ok (.dup, 1) := by decide +kernel
theorem dX1_stepBack_28 : decode cX1_stepBack 28 = .ok (.getfield 43, 3) := by decide +kernel
theorem dX1_stepBack_31 : decode cX1_stepBack 31 = .ok (.iconst 1, 1) := by decide +kernel
theorem dX1_stepBack_32 : decode cX1_stepBack 32 = .ok (.iadd, 1) := by decide +kernel
theorem dX1_stepBack_33 : decode cX1_stepBack 33 = .ok (.putfield 43, 3) := by decide +kernel
theorem dX1_stepBack_36 : decode cX1_stepBack 36 = .ok (.return_, 1) := by decide +kernel
theorem dX1_stepForward_0 : decode cX1_stepForward 0 = .ok (.aload_n 0, 1) := by decide +kernel
theorem dX1_stepForward_1 : decode cX1_stepForward 1 = .ok (.aload_n 0, 1) := by decide +kernel
theorem dX1_stepForward_2 : decode cX1_stepForward 2 = .ok (.getfield 22, 3) := by decide +kernel
theorem dX1_stepForward_5 : decode cX1_stepForward 5 = .ok (.iconst 1, 1) := by decide +kernel
theorem dX1_stepForward_6 : decode cX1_stepForward 6 = .ok (.iadd, 1) := by decide +kernel
theorem dX1_stepForward_7 : decode cX1_stepForward 7 = .ok (.bipush 11, 2) := by decide +kernel
theorem dX1_stepForward_9 : decode cX1_stepForward 9 = .ok (.irem, 1) := by decide +kernel
theorem dX1_stepForward_10 : decode cX1_stepForward 10 = .ok (.putfield 22, 3) := by decide +kernel
theorem dX1_stepForward_13 : decode cX1_stepForward 13 = .ok (.aload_n 0, 1) := by decide +kernel
theorem dX1_stepForward_14 : decode cX1_stepForward 14 = .ok (.dup, 1) := by decide +kernel
theorem dX1_stepForward_15 : decode cX1_stepForward 15 = .ok (.getfield 34, 3) := by decide +kernel
theorem dX1_stepForward_18 : decode cX1_stepForward 18 = .ok (.iconst 1, 1) := by decide +kernel
theorem dX1_stepForward_19 : decode cX1_stepForward 19 = .ok (.iadd, 1) := by decide +kernel
theorem dX1_stepForward_20 : decode cX1_stepForward 20 = .ok (.putfield 34, 3) := by decide +kernel
theorem dX1_stepForward_23 : decode cX1_stepForward 23 = .ok (.aload_n 0, 1) := by decide +kernel
theorem dX1_stepForward_24 : decode cX1_stepForward 24 = .ok (.dup, 1) := by decide +kernel
theorem dX1_stepForward_25 : decode cX1_stepForward 25 = .ok (.getfield 43, 3) := by decide +kernel
theorem dX1_stepForward_28 : decode cX1_stepForward 28 = .ok (.iconst 1, 1) := by decide +kernel
theorem dX1_stepForward_29 : decode cX1_stepForward 29 = .ok (.isub, 1) := by decide +kernel
theorem dX1_stepForward_30 : decode cX1_stepForward 30 = .ok (.putfield 43, 3) := by decide +kernel
theorem dX1_stepForward_33 : decode cX1_stepForward 33 = .ok (.return_, 1) := by decide +kernel
theorem dX1_startAnew_0 : decode cX1_startAnew 0 = .ok (.aload_n 0, 1) := by decide +kernel
theorem dX1_startAnew_1 : decode cX1_startAnew 1 = .ok (.invokevirtual 26, 3) := by decide +kernel
theorem dX1_startAnew_4 : decode cX1_startAnew 4 = .ok (.aload_n 1, 1) := by decide +kernel
theorem dX1_startAnew_5 : decode cX1_startAnew 5 = .ok (.invokevirtual 30, 3) := by decide +kernel
theorem dX1_startAnew_8 : decode cX1_startAnew 8 = .ok (.aload_n 0, 1) := by decide +kernel
theorem dX1_startAnew_9 : decode cX1_startAnew 9 = .ok (.iconst 0, 1) := by decide +kernel
theorem dX1_startAnew_10 : decode cX1_startAnew 10 = .ok (.putfield 34, 3) := by decide +kernel
theorem dX1_startAnew_13 : decode cX1_startAnew 13 = .ok (.aload_n 0, 1) := by decide +kernel
theorem dX1_startAnew_14 : decode cX1_startAnew 14 = .ok (.iconst 0, 1) := by decide +kernel
theorem dX1_startAnew_15 : decode cX1_startAnew 15 = .ok (.putfield 43, 3) := by decide +kernel
theorem dX1_startAnew_18 : decode cX1_startAnew 18 = .ok (.return_, 1) := by decide +kernel
theorem dX2_init_0 : decode cX2_init 0 = .ok (.aload_n 0, 1) := by decide +kernel
theorem dX2_init_1 : decode cX2_init 1 = .ok (.invokespecial 3, 3) := by decide +kernel
theorem dX2_init_4 : decode cX2_init 4 = .ok (.return_, 1) := by decide +kernel
theorem dX2_start_0 : decode cX2_start 0 = .ok (.aload_n 0, 1) := by decide +kernel
theorem dX2_start_1 : decode cX2_start 1 = .ok (.iconst 0, 1) := by decide +kernel
theorem dX2_start_2 : decode cX2_start 2 = .ok (.putfield 9, 3) := by decide +kernel
theorem dX2_start_5 : decode cX2_start 5 = .ok (.aload_n 0, 1) := by decide +kernel
theorem dX2_start_6 : decode cX2_start 6 = .ok (.iconst 0, 1) := by decide +kernel
theorem dX2_start_7 : decode cX2_start 7 = .ok (.putfield 15, 3) := by decide +kernel
theorem dX2_start_10 : decode cX2_start 10 = .ok (.return_, 1) := by decide +kernel
theorem dX2_quotient_0 : decode cX2_quotient 0 = .ok (.lload_n 3, 1) := by decide +kernel
theorem dX2_quotient_1 : decode cX2_quotient 1 = .ok (.lconst 0, 1) := by decide +kernel
theorem dX2_quotient_2 : decode cX2_quotient 2 = .ok (.lcmp, 1) := by decide +kernel
theorem dX2_quotient_3 : decode cX2_quotient 3 = .ok (.ifCond .eq 11, 3) := by decide +kernel
theorem dX2_quotient_6 : decode cX2_quotient 6 = .ok (.lload_n 1, 1) := by decide +kernel
theorem dX2_quotient_7 : decode cX2_quotient 7 = .ok (.lload_n 3, 1) := by decide +kernel
theorem dX2_quotient_8 : decode cX2_quotient 8 = .ok (.lrem, 1) := by decide +kernel
theorem dX2_quotient_9 : decode cX2_quotient 9 = .ok (.lconst 0, 1) := by decide +kernel
theorem dX2_quotient_10 : decode cX2_quotient 10 = .ok (.lcmp, 1) := by decide +kernel
theorem dX2_quotient_11 : decode cX2_quotient 11 = .ok (.ifCond .eq 10, 3) := by decide +kernel
theorem dX2_quotient_14 : decode cX2_quotient 14 = .ok (.aload_n 0, 1) := by decide +kernel
theorem dX2_quotient_15 : decode cX2_quotient 15 = .ok (.iconst 1, 1) := by decide +kernel
theorem dX2_quotient_16 : decode cX2_quotient 16 = .ok (.putfield 9, 3) := by decide +kernel
theorem dX2_quotient_19 : decode cX2_quotient 19 = .ok (.iconst 0, 1) := by decide +kernel
theorem dX2_quotient_20 : decode cX2_quotient 20 = .ok (.ireturn, 1) := by decide +kernel
theorem dX2_quotient_21 : decode cX2_quotient 21 = .ok (.lload_n 1, 1) := by decide +kernel
theorem dX2_quotient_22 : decode cX2_quotient 22 = .ok (.lload_n 3, 1) := by decide +kernel
theorem dX2_quotient_23 : decode cX2_quotient 23 = .ok (.ldiv, 1) := by decide +kernel
theorem dX2_quotient_24 : decode cX2_quotient 24 = .ok (.lstore 5, 2) := by decide +kernel
theorem dX2_quotient_26 : decode cX2_quotient 26 = .ok (.lload 5, 2) := by decide +kernel
theorem dX2_quotient_28 : decode cX2_quotient 28 = .ok (.invokestatic 18, 3) := by decide +kernel
theorem dX2_quotient_31 : decode cX2_quotient 31 = .ok (.ldc2_w 24, 3) := by decide +kernel
theorem dX2_quotient_34 : decode cX2_quotient 34 = .ok (.lcmp, 1) := by decide +kernel
theorem dX2_quotient_35 : decode cX2_quotient 35 = .ok (.ifCond .le 10, 3) := by decide +kernel
theorem dX2_quotient_38 : decode cX2_quotient 38 = .ok (.aload_n 0, 1) := by decide +kernel
theorem dX2_quotient_39 : decode cX2_quotient 39 = .ok (.iconst 1, 1) := by decide +kernel
theorem dX2_quotient_40 : decode cX2_quotient 40 = .ok (.putfield 15, 3) := by decide +kernel
theorem dX2_quotient_43 : decode cX2_quotient 43 = .ok (.iconst 0, 1) := by decide +kernel
theorem dX2_quotient_44 : decode cX2_quotient 44 = .ok (.ireturn, 1) := by decide +kernel
theorem dX2_quotient_45 : decode cX2_quotient 45 = .ok (.lload 5, 2) := by decide +kernel
theorem dX2_quotient_47 : decode cX2_quotient 47 = .ok (.l2i, 1) := by decide +kernel
theorem dX2_quotient_48 : decode cX2_quotient 48 = .ok (.ireturn, 1) := by decide +kernel
theorem dX2_error_0 : decode cX2_error 0 = .ok (.aload_n 0, 1) := by decide +kernel
theorem dX2_error_1 : decode cX2_error 1 = .ok (.getfield 9, 3) := by decide +kernel
theorem dX2_error_4 : decode cX2_error 4 = .ok (.ifCond .eq 6, 3) := by decide +kernel
theorem dX2_error_7 : decode cX2_error 7 = .ok (.ldc 26, 2) := by decide +kernel
theorem dX2_error_9 : decode cX2_error 9 = .ok (.ireturn, 1) := by decide +kernel
theorem dX2_error_10 : decode cX2_error 10 = .ok (.aload_n 0, 1) := by decide +kernel
theorem dX2_error_11 : decode cX2_error 11 = .ok (.getfield 15, 3) := by decide +kernel
theorem dX2_error_14 : decode cX2_error 14 = .ok (.ifCond .eq 8, 3) := by decide +kernel
theorem dX2_error_17 : decode cX2_error 17 = .ok (.ldc 27, 2) := by decide +kernel
theorem dX2_error_19 : decode cX2_error 19 = .ok (.goto 4, 3) := by decide +kernel
theorem dX2_error_22 : decode cX2_error 22 = .ok (.iconst 0, 1) := by decide +kernel
theorem dX2_error_23 : decode cX2_error 23 = .ok (.ireturn, 1) := by decide +kernel
theorem dX3_init_0 : decode cX3_init 0 = .ok (.aload_n 0, 1) := by decide +kernel
theorem dX3_init_1 : decode cX3_init 1 = .ok (.invokespecial 3, 3) := by decide +kernel
theorem dX3_init_4 : decode cX3_init 4 = .ok (.aload_n 0, 1) := by decide +kernel
theorem dX3_init_5 : decode cX3_init 5 = .ok (.bipush 96, 2) := by decide +kernel
theorem dX3_init_7 : decode cX3_init 7 = .ok (.newarray .int, 2) := by decide +kernel
theorem dX3_init_9 : decode cX3_init 9 = .ok (.putfield 9, 3) := by decide +kernel
theorem dX3_init_12 : decode cX3_init 12 = .ok (.return_, 1) := by decide +kernel
theorem dX3_copyFrom_0 : decode cX3_copyFrom 0 = .ok (.aload_n 1, 1) := by decide +kernel
theorem dX3_copyFrom_1 : decode cX3_copyFrom 1 = .ok (.getfield 9, 3) := by decide +kernel
theorem dX3_copyFrom_4 : decode cX3_copyFrom 4 = .ok (.iconst 0, 1) := by decide +kernel
theorem dX3_copyFrom_5 : decode cX3_copyFrom 5 = .ok (.aload_n 0, 1) := by decide +kernel
theorem dX3_copyFrom_6 : decode cX3_copyFrom 6 = .ok (.getfield 9, 3) := by decide +kernel
theorem dX3_copyFrom_9 : decode cX3_copyFrom 9 = .ok (.iconst 0, 1) := by decide +kernel
theorem dX3_copyFrom_10 : decode cX3_copyFrom 10 = .ok (.bipush 96, 2) := by decide +kernel
theorem dX3_copyFrom_12 : decode cX3_copyFrom 12 = .ok (.invokestatic 15, 3) := by decide +kernel
theorem dX3_copyFrom_15 : decode cX3_copyFrom 15 = .ok (.aload_n 0, 1) := by decide +kernel
theorem dX3_copyFrom_16 : decode cX3_copyFrom 16 = .ok (.aload_n 1, 1) := by decide +kernel
theorem dX3_copyFrom_17 : decode cX3_copyFrom 17 = .ok (.getfield 21, 3) := by decide +kernel
theorem dX3_copyFrom_20 : decode cX3_copyFrom 20 = .ok (.putfield 21, 3) := by decide +kernel
theorem dX3_copyFrom_23 : decode cX3_copyFrom 23 = .ok (.aload_n 0, 1) := by decide +kernel
theorem dX3_copyFrom_24 : decode cX3_copyFrom 24 = .ok (.aload_n 1, 1) := by decide +kernel
theorem dX3_copyFrom_25 : decode cX3_copyFrom 25 = .ok (.getfield 25, 3) := by decide +kernel
theorem dX3_copyFrom_28 : decode cX3_copyFrom 28 = .ok (.putfield 25, 3) := by decide +kernel
theorem dX3_copyFrom_31 : decode cX3_copyFrom 31 = .ok (.return_, 1) := by decide +kernel
theorem dX3_makeEmpty_0 : decode cX3_makeEmpty 0 = .ok (.aload_n 0, 1) := by decide +kernel
theorem dX3_makeEmpty_1 : decode cX3_makeEmpty 1 = .ok (.iconst 0, 1) := by decide +kernel
theorem dX3_makeEmpty_2 : decode cX3_makeEmpty 2 = .ok (.putfield 21, 3) := by decide +kernel
theorem dX3_makeEmpty_5 : decode cX3_makeEmpty 5 = .ok (.aload_n 0, 1) := by decide +kernel
theorem dX3_makeEmpty_6 : decode cX3_makeEmpty 6 = .ok (.iconst 0, 1) := by decide +kernel
theorem dX3_makeEmpty_7 : decode cX3_makeEmpty 7 = .ok (.putfield 25, 3) := by decide +kernel
theorem dX3_makeEmpty_10 : decode cX3_makeEmpty 10 = .ok (.return_, 1) := by decide +kernel
theorem dX3_hasNode_0 : decode cX3_hasNode 0 = .ok (.iconst 0, 1) := by decide +kernel
theorem dX3_hasNode_1 : decode cX3_hasNode 1 = .ok (.iload_n 1, 1) := by decide +kernel
theorem dX3_hasNode_2 : decode cX3_hasNode 2 = .ok (.if_icmp .gt 15, 3) := by decide +kernel
theorem dX3_hasNode_5 : decode cX3_hasNode 5 = .ok (.iload_n 1, 1) := by decide +kernel
theorem dX3_hasNode_6 : decode cX3_hasNode 6 = .ok (.aload_n 0, 1) := by decide +kernel
theorem dX3_hasNode_7 : decode cX3_hasNode 7 = .ok (.getfield 21, 3) := by decide +kernel
theorem dX3_hasNode_10 : decode cX3_hasNode 10 = .ok (.if_icmp .ge 7, 3) := by decide +kernel
theorem dX3_hasNode_13 : decode cX3_hasNode 13 = .ok (.iconst 1, 1) := by decide +kernel
theorem dX3_hasNode_14 : decode cX3_hasNode 14 = .ok (.goto 4, 3) := by decide +kernel
theorem dX3_hasNode_17 : decode cX3_hasNode 17 = .ok (.iconst 0, 1) := by decide +kernel
theorem dX3_hasNode_18 : decode cX3_hasNode 18 = .ok (.ireturn, 1) := by decide +kernel
theorem dX3_hasSegment_0 : decode cX3_hasSegment 0 = .ok (.iconst 0, 1) := by decide +kernel
theorem dX3_hasSegment_1 : decode cX3_hasSegment 1 = .ok (.iload_n 1, 1) := by decide +kernel
theorem dX3_hasSegment_2 : decode cX3_hasSegment 2 = .ok (.if_icmp .gt 15, 3) := by decide +kernel
theorem dX3_hasSegment_5 : decode cX3_hasSegment 5 = .ok (.iload_n 1, 1) := by decide +kernel
theorem dX3_hasSegment_6 : decode cX3_hasSegment 6 = .ok (.aload_n 0, 1) := by decide +kernel
theorem dX3_hasSegment_7 : decode cX3_hasSegment 7 = .ok (.invokevirtual 29, 3) := by decide +kernel
theorem dX3_hasSegment_10 : decode cX3_hasSegment 10 = .ok (.if_icmp .ge 7, 3) := by decide +kernel
theorem dX3_hasSegment_13 : decode cX3_hasSegment 13 = .ok (.iconst 1, 1) := by decide +kernel
theorem dX3_hasSegment_14 : decode cX3_hasSegment 14 = .ok (.goto 4, 3) := by decide +kernel
theorem dX3_hasSegment_17 : decode cX3_hasSegment 17 = .ok (.iconst 0, 1) := by decide +kernel
theorem dX3_hasSegment_18 : decode cX3_hasSegment 18 = .ok (.ireturn, 1) := by decide +kernel
theorem dX3_segmentCount_0 : decode cX3_segmentCount 0 = .ok (.aload_n 0, 1) := by decide +kernel
theorem dX3_segmentCount_1 : decode cX3_segmentCount 1 = .ok (.getfield 25, 3) := by decide +kernel
theorem dX3_segmentCount_4 : decode cX3_segmentCount 4 = .ok (.ifCond .eq 10, 3) := by decide +kernel
theorem dX3_segmentCount_7 : decode cX3_segmentCount 7 = .ok (.aload_n 0, 1) := by decide +kernel
theorem dX3_segmentCount_8 : decode cX3_segmentCount 8 = .ok (.getfield 21, 3) := by decide +kernel
theorem dX3_segmentCount_11 : decode cX3_segmentCount 11 = .ok (.goto 9, 3) := by decide +kernel
theorem dX3_segmentCount_14 : decode cX3_segmentCount 14 = .ok (.aload_n 0, 1) := by decide +kernel
theorem dX3_segmentCount_15 : decode cX3_segmentCount 15 = .ok (.getfield 21, 3) := by decide +kernel
theorem dX3_segmentCount_18 : decode cX3_segmentCount 18 = .ok (.iconst 1, 1) := by decide +kernel
theorem dX3_segmentCount_19 : decode cX3_segmentCount 19 = .ok (.isub, 1) := by decide +kernel
theorem dX3_segmentCount_20 : decode cX3_segmentCount 20 = .ok (.ireturn, 1) := by decide +kernel
theorem dX3_hasSegmentsAround_0 : decode cX3_hasSegmentsAround 0 = .ok (.aload_n 0, 1) := by decide +kernel
theorem dX3_hasSegmentsAround_1 : decode cX3_hasSegmentsAround 1 = .ok (.getfield 25, 3) := by decide +kernel
theorem dX3_hasSegmentsAround_4 : decode cX3_hasSegmentsAround 4 = .ok (.ifCond .ne 17, 3) := by decide +kernel
theorem dX3_hasSegmentsAround_7 : decode cX3_hasSegmentsAround 7 = .ok (.iload_n 1, 1) := by decide +kernel
theorem dX3_hasSegmentsAround_8 : decode cX3_hasSegmentsAround 8 = .ok (.ifCond .le 17, 3) := by decide +kernel
theorem dX3_hasSegmentsAround_11 : decode cX3_hasSegmentsAround 11 = .ok (.iload_n 1, 1) := by decide +kernel
theorem dX3_hasSegmentsAround_12 : decode cX3_hasSegmentsAround 12 = .ok (.aload_n 0, 1) := by decide +kernel
theorem dX3_hasSegmentsAround_13 : decode cX3_hasSegmentsAround 13 = .ok (.getfield 21, 3) := by decide +kernel
theorem dX3_hasSegmentsAround_16 : decode cX3_hasSegmentsAround 16 = .ok (.iconst 1, 1) := by decide +kernel
theorem dX3_hasSegmentsAround_17 : decode cX3_hasSegmentsAround 17 = .ok (.isub, 1) := by decide +kernel
theorem dX3_hasSegmentsAround_18 : decode cX3_hasSegmentsAround 18 = .ok (.if_icmp .ge 7, 3) := by decide +kernel
theorem dX3_hasSegmentsAround_21 : decode cX3_hasSegmentsAround 21 = .ok (.iconst 1, 1) := by decide +kernel
theorem dX3_hasSegmentsAround_22 : decode cX3_hasSegmentsAround 22 = .ok (.goto 4, 3) := by decide +kernel
theorem dX3_hasSegmentsAround_25 : decode cX3_hasSegmentsAround 25 = .ok (.iconst 0, 1) := by decide +kernel
theorem dX3_hasSegmentsAround_26 : decode cX3_hasSegmentsAround 26 = .ok (.ireturn, 1) := by decide +kernel
theorem dX3_endOf_0 : decode cX3_endOf 0 = .ok (.iload_n 1, 1) := by decide +kernel
theorem dX3_endOf_1 : decode cX3_endOf 1 = .ok (.iconst 1, 1) := by decide +kernel
theorem dX3_endOf_2 : decode cX3_endOf 2 = .ok (.iadd, 1) := by decide +kernel
theorem dX3_endOf_3 : decode cX3_endOf 3 = .ok (.aload_n 0, 1) := by decide +kernel
theorem dX3_endOf_4 : decode cX3_endOf 4 = .ok (.getfield 21, 3) := by decide +kernel
theorem dX3_endOf_7 : decode cX3_endOf 7 = .ok (.if_icmp .ge 9, 3) := by decide +kernel
theorem dX3_endOf_10 : decode cX3_endOf 10 = .ok (.iload_n 1, 1) := by decide +kernel
theorem dX3_endOf_11 : decode cX3_endOf 11 = .ok (.iconst 1, 1) := by decide +kernel
theorem dX3_endOf_12 : decode cX3_endOf 12 = .ok (.iadd, 1) := by decide +kernel
theorem dX3_endOf_13 : decode cX3_endOf 13 = .ok (.goto 4, 3) := by decide +kernel
theorem dX3_endOf_16 : decode cX3_endOf 16 = .ok (.iconst 0, 1) := by decide +kernel
theorem dX3_endOf_17 : decode cX3_endOf 17 = .ok (.ireturn, 1) := by decide +kernel
theorem dX3_get_0 : decode cX3_get 0 = .ok (.iload_n 1, 1) := by decide +kernel
theorem dX3_get_1 : decode cX3_get 1 = .ok (.ifCond .lt 19, 3) := by decide +kernel
theorem dX3_get_4 : decode cX3_get 4 = .ok (.iload_n 1, 1) := by decide +kernel
theorem dX3_get_5 : decode cX3_get 5 = .ok (.bipush 12, 2) := by decide +kernel
theorem dX3_get_7 : decode cX3_get 7 = .ok (.if_icmp .ge 13, 3) := by decide +kernel
theorem dX3_get_10 : decode cX3_get 10 = .ok (.iload_n 2, 1) := by decide +kernel
theorem dX3_get_11 : decode cX3_get 11 = .ok (.ifCond .lt 9, 3) := by decide +kernel
theorem dX3_get_14 : decode cX3_get 14 = .ok (.iload_n 2, 1) := by decide +kernel
theorem dX3_get_15 : decode cX3_get 15 = .ok (.bipush 8, 2) := by decide +kernel
theorem dX3_get_17 : decode cX3_get 17 = .ok (.if_icmp .lt 5, 3) := by decide +kernel
theorem dX3_get_20 : decode cX3_get 20 = .ok (.iconst 0, 1) := by decide +kernel
theorem dX3_get_21 : decode cX3_get 21 = .ok (.ireturn, 1) := by decide +kernel
theorem dX3_get_22 : decode cX3_get 22 = .ok (.aload_n 0, 1) := by decide +kernel
theorem dX3_get_23 : decode cX3_get 23 = .ok (.getfield 9, 3) := by decide +kernel
theorem dX3_get_26 : decode cX3_get 26 = .ok (.iload_n 1, 1) := by decide +kernel
theorem dX3_get_27 : decode cX3_get 27 = .ok (.bipush 8, 2) := by decide +kernel
theorem dX3_get_29 : decode cX3_get 29 = .ok (.imul, 1) := by decide +kernel
theorem dX3_get_30 : decode cX3_get 30 = .ok (.iload_n 2, 1) := by decide +kernel
theorem dX3_get_31 : decode cX3_get 31 = .ok (.iadd, 1) := by decide +kernel
theorem dX3_get_32 : decode cX3_get 32 = .ok (.iaload, 1) := by decide +kernel
theorem dX3_get_33 : decode cX3_get 33 = .ok (.ireturn, 1) := by decide +kernel
theorem dX3_put_0 : decode cX3_put 0 = .ok (.iload_n 1, 1) := by decide +kernel
theorem dX3_put_1 : decode cX3_put 1 = .ok (.ifCond .lt 31, 3) := by decide +kernel
theorem dX3_put_4 : decode cX3_put 4 = .ok (.iload_n 1, 1) := by decide +kernel
theorem dX3_put_5 : decode cX3_put 5 = .ok (.bipush 12, 2) := by decide +kernel
theorem dX3_put_7 : decode cX3_put 7 = .ok (.if_icmp .ge 25, 3) := by decide +kernel
theorem dX3_put_10 : decode cX3_put 10 = .ok (.iload_n 2, 1) := by decide +kernel
theorem dX3_put_11 : decode cX3_put 11 = .ok (.ifCond .lt 21, 3) := by decide +kernel
theorem dX3_put_14 : decode cX3_put 14 = .ok (.iload_n 2, 1) := by decide +kernel
theorem dX3_put_15 : decode cX3_put 15 = .ok (.bipush 8, 2) := by decide +kernel
theorem dX3_put_17 : decode cX3_put 17 = .ok (.if_icmp .ge 15, 3) := by decide +kernel
theorem dX3_put_20 : decode cX3_put 20 = .ok (.aload_n 0, 1) := by decide +kernel
theorem dX3_put_21 : decode cX3_put 21 = .ok (.getfield 9, 3) := by decide +kernel
theorem dX3_put_24 : decode cX3_put 24 = .ok (.iload_n 1, 1) := by decide +kernel
theorem dX3_put_25 : decode cX3_put 25 = .ok (.bipush 8, 2) := by decide +kernel
theorem dX3_put_27 : decode cX3_put 27 = .ok (.imul, 1) := by decide +kernel
theorem dX3_put_28 : decode cX3_put 28 = .ok (.iload_n 2, 1) := by decide +kernel
theorem dX3_put_29 : decode cX3_put 29 = .ok (.iadd, 1) := by decide +kernel
theorem dX3_put_30 : decode cX3_put 30 = .ok (.iload_n 3, 1) := by decide +kernel
theorem dX3_put_31 : decode cX3_put 31 = .ok (.iastore, 1) := by decide +kernel
theorem dX3_put_32 : decode cX3_put 32 = .ok (.return_, 1) := by decide +kernel
theorem dX3_isZero_0 : decode cX3_isZero 0 = .ok (.aload_n 0, 1) := by decide +kernel
theorem dX3_isZero_1 : decode cX3_isZero 1 = .ok (.iload_n 1, 1) := by decide +kernel
theorem dX3_isZero_2 : decode cX3_isZero 2 = .ok (.iload_n 2, 1) := by decide +kernel
theorem dX3_isZero_3 : decode cX3_isZero 3 = .ok (.invokevirtual 33, 3) := by decide +kernel
theorem dX3_isZero_6 : decode cX3_isZero 6 = .ok (.ifCond .ne 18, 3) := by decide +kernel
theorem dX3_isZero_9 : decode cX3_isZero 9 = .ok (.aload_n 0, 1) := by decide +kernel
theorem dX3_isZero_10 : decode cX3_isZero 10 = .ok (.iload_n 1, 1) := by decide +kernel
theorem dX3_isZero_11 : decode cX3_isZero 11 = .ok (.iload_n 2, 1) := by decide +kernel
theorem dX3_isZero_12 : decode cX3_isZero 12 = .ok (.iconst 1, 1) := by decide +kernel
theorem dX3_isZero_13 : decode cX3_isZero 13 = .ok (.iadd, 1) := by decide +kernel
theorem dX3_isZero_14 : decode cX3_isZero 14 = .ok (.invokevirtual 33, 3) := by decide +kernel
theorem dX3_isZero_17 : decode cX3_isZero 17 = .ok (.ifCond .ne 7, 3) := by decide +kernel
theorem dX3_isZero_20 : decode cX3_isZero 20 = .ok (.iconst 1, 1) := by decide +kernel
theorem dX3_isZero_21 : decode cX3_isZero 21 = .ok (.goto 4, 3) := by decide +kernel
theorem dX3_isZero_24 : decode cX3_isZero 24 = .ok (.iconst 0, 1) := by decide +kernel
theorem dX3_isZero_25 : decode cX3_isZero 25 = .ok (.ireturn, 1) := by decide +kernel
theorem dX3_isSmooth_0 : decode cX3_isSmooth 0 = .ok (.aload_n 0, 1) := by decide +kernel
theorem dX3_isSmooth_1 : decode cX3_isSmooth 1 = .ok (.iload_n 1, 1) := by decide +kernel
theorem dX3_isSmooth_2 : decode cX3_isSmooth 2 = .ok (.bipush 6, 2) := by decide +kernel
theorem dX3_isSmooth_4 : decode cX3_isSmooth 4 = .ok (.invokevirtual 33, 3) := by decide +kernel
theorem dX3_isSmooth_7 : decode cX3_isSmooth 7 = .ok (.ifCond .eq 7, 3) := by decide +kernel
theorem dX3_isSmooth_10 : decode cX3_isSmooth 10 = .ok (.iconst 1, 1) := by decide +kernel
theorem dX3_isSmooth_11 : decode cX3_isSmooth 11 = .ok (.goto 4, 3) := by decide +kernel
theorem dX3_isSmooth_14 : decode cX3_isSmooth 14 = .ok (.iconst 0, 1) := by decide +kernel
theorem dX3_isSmooth_15 : decode cX3_isSmooth 15 = .ok (.ireturn, 1) := by decide +kernel
theorem dX3_ratioNumber_0 : decode cX3_ratioNumber 0 = .ok (.aload_n 0, 1) := by decide +kernel
theorem dX3_ratioNumber_1 : decode cX3_ratioNumber 1 = .ok (.iload_n 1, 1) := by decide +kernel
theorem dX3_ratioNumber_2 : decode cX3_ratioNumber 2 = .ok (.invokevirtual 37, 3) := by decide +kernel
theorem dX3_ratioNumber_5 : decode cX3_ratioNumber 5 = .ok (.ifCond .eq 12, 3) := by decide +kernel
theorem dX3_ratioNumber_8 : decode cX3_ratioNumber 8 = .ok (.aload_n 0, 1) := by decide +kernel
theorem dX3_ratioNumber_9 : decode cX3_ratioNumber 9 = .ok (.iload_n 1, 1) := by decide +kernel
theorem dX3_ratioNumber_10 : decode cX3_ratioNumber 10 = .ok (.iload_n 2, 1) := by decide +kernel
theorem dX3_ratioNumber_11 : decode cX3_ratioNumber 11 = .ok (.invokevirtual 33, 3) := by decide +kernel
theorem dX3_ratioNumber_14 : decode cX3_ratioNumber 14 = .ok (.goto 5, 3) := by decide +kernel
theorem dX3_ratioNumber_17 : decode cX3_ratioNumber 17 = .ok (.ldc 41, 2) := by decide +kernel
theorem dX3_ratioNumber_19 : decode cX3_ratioNumber 19 = .ok (.ireturn, 1) := by decide +kernel
theorem dX3_makeCorner_0 : decode cX3_makeCorner 0 = .ok (.aload_n 0, 1) := by decide +kernel
theorem dX3_makeCorner_1 : decode cX3_makeCorner 1 = .ok (.iload_n 1, 1) := by decide +kernel
theorem dX3_makeCorner_2 : decode cX3_makeCorner 2 = .ok (.bipush 6, 2) := by decide +kernel
theorem dX3_makeCorner_4 : decode cX3_makeCorner 4 = .ok (.iconst 0, 1) := by decide +kernel
theorem dX3_makeCorner_5 : decode cX3_makeCorner 5 = .ok (.invokevirtual 42, 3) := by decide +kernel
theorem dX3_makeCorner_8 : decode cX3_makeCorner 8 = .ok (.aload_n 0, 1) := by decide +kernel
theorem dX3_makeCorner_9 : decode cX3_makeCorner 9 = .ok (.iload_n 1, 1) := by decide +kernel
theorem dX3_makeCorner_10 : decode cX3_makeCorner 10 = .ok (.bipush 7, 2) := by decide +kernel
theorem dX3_makeCorner_12 : decode cX3_makeCorner 12 = .ok (.iconst 0, 1) := by decide +kernel
theorem dX3_makeCorner_13 : decode cX3_makeCorner 13 = .ok (.invokevirtual 42, 3) := by decide +kernel
theorem dX3_makeCorner_16 : decode cX3_makeCorner 16 = .ok (.return_, 1) := by decide +kernel
theorem dX3_putRatio_0 : decode cX3_putRatio 0 = .ok (.iload_n 2, 1) := by decide +kernel
theorem dX3_putRatio_1 : decode cX3_putRatio 1 = .ok (.iload_n 3, 1) := by decide +kernel
theorem dX3_putRatio_2 : decode cX3_putRatio 2 = .ok (.invokestatic 46, 3) := by decide +kernel
theorem dX3_putRatio_5 : decode cX3_putRatio 5 = .ok (.istore 4, 2) := by decide +kernel
theorem dX3_putRatio_7 : decode cX3_putRatio 7 = .ok (.iload 4, 2) := by decide +kernel
theorem dX3_putRatio_9 : decode cX3_putRatio 9 = .ok (.ifCond .eq 23, 3) := by decide +kernel
theorem dX3_putRatio_12 : decode cX3_putRatio 12 = .ok (.iload_n 2, 1) := by decide +kernel
theorem dX3_putRatio_13 : decode cX3_putRatio 13 = .ok (.iload 4, 2) := by decide +kernel
theorem dX3_putRatio_15 : decode cX3_putRatio 15 = .ok (.idiv, 1) := by decide +kernel
theorem dX3_putRatio_16 : decode cX3_putRatio 16 = .ok (.sipush 999, 3) := by decide +kernel
theorem dX3_putRatio_19 : decode cX3_putRatio 19 = .ok (.if_icmp .gt 13, 3) := by decide +kernel
theorem dX3_putRatio_22 : decode cX3_putRatio 22 = .ok (.iload_n 3, 1) := by decide +kernel
theorem dX3_putRatio_23 : decode cX3_putRatio 23 = .ok (.iload 4, 2) := by decide +kernel
theorem dX3_putRatio_25 : decode cX3_putRatio 25 = .ok (.idiv, 1) := by decide +kernel
theorem dX3_putRatio_26 : decode cX3_putRatio 26 = .ok (.sipush 999, 3) := by decide +kernel
theorem dX3_putRatio_29 : decode cX3_putRatio 29 = .ok (.if_icmp .le 9, 3) := by decide +kernel
theorem dX3_putRatio_32 : decode cX3_putRatio 32 = .ok (.aload_n 0, 1) := by decide +kernel
theorem dX3_putRatio_33 : decode cX3_putRatio 33 = .ok (.iload_n 1, 1) := by decide +kernel
theorem dX3_putRatio_34 : decode cX3_putRatio 34 = .ok (.invokevirtual 49, 3) := by decide +kernel
theorem dX3_putRatio_37 : decode cX3_putRatio 37 = .ok (.return_, 1) := by decide +kernel
theorem dX3_putRatio_38 : decode cX3_putRatio 38 = .ok (.aload_n 0, 1) := by decide +kernel
theorem dX3_putRatio_39 : decode cX3_putRatio 39 = .ok (.iload_n 1, 1) := by decide +kernel
theorem dX3_putRatio_40 : decode cX3_putRatio 40 = .ok (.bipush 6, 2) := by decide +kernel
theorem dX3_putRatio_42 : decode cX3_putRatio 42 = .ok (.iload_n 2, 1) := by decide +kernel
theorem dX3_putRatio_43 : decode cX3_putRatio 43 = .ok (.iload 4, 2) := by decide +kernel
theorem dX3_putRatio_45 : decode cX3_putRatio 45 = .ok (.idiv, 1) := by decide +kernel
theorem dX3_putRatio_46 : decode cX3_putRatio 46 = .ok (.invokevirtual 42, 3) := by decide +kernel
theorem dX3_putRatio_49 : decode cX3_putRatio 49 = .ok (.aload_n 0, 1) := by decide +kernel
theorem dX3_putRatio_50 : decode cX3_putRatio 50 = .ok (.iload_n 1, 1) := by decide +kernel
theorem dX3_putRatio_51 : decode cX3_putRatio 51 = .ok (.bipush 7, 2) := by decide +kernel
theorem dX3_putRatio_53 : decode cX3_putRatio 53 = .ok (.iload_n 3, 1) := by decide +kernel
theorem dX3_putRatio_54 : decode cX3_putRatio 54 = .ok (.iload 4, 2) := by decide +kernel
theorem dX3_putRatio_56 : decode cX3_putRatio 56 = .ok (.idiv, 1) := by decide +kernel
theorem dX3_putRatio_57 : decode cX3_putRatio 57 = .ok (.invokevirtual 42, 3) := by decide +kernel
theorem dX3_putRatio_60 : decode cX3_putRatio 60 = .ok (.return_, 1) := by decide +kernel
theorem dX3_greatestDivisor_0 : decode cX3_greatestDivisor 0 = .ok (.iload_n 0, 1) := by decide +kernel
theorem dX3_greatestDivisor_1 : decode cX3_greatestDivisor 1 = .ok (.istore_n 2, 1) := by decide +kernel
theorem dX3_greatestDivisor_2 : decode cX3_greatestDivisor 2 = .ok (.iload_n 1, 1) := by decide +kernel
theorem dX3_greatestDivisor_3 : decode cX3_greatestDivisor 3 = .ok (.istore_n 3, 1) := by decide +kernel
theorem dX3_greatestDivisor_4 : decode cX3_greatestDivisor 4 = .ok (.iconst 0, 1) := by decide +kernel
theorem dX3_greatestDivisor_5 : decode cX3_greatestDivisor 5 = .ok (.istore 4, 2) := by decide +kernel
theorem dX3_greatestDivisor_7 : decode cX3_greatestDivisor 7 = .ok (.iload 4, 2) := by decide +kernel
theorem dX3_greatestDivisor_9 : decode cX3_greatestDivisor 9 = .ok (.bipush 100, 2) := by decide +kernel
theorem dX3_greatestDivisor_11 : decode cX3_greatestDivisor 11 = .ok (.if_icmp .ge 23, 3) := by decide +kernel
theorem dX3_greatestDivisor_14 : decode cX3_greatestDivisor 14 = .ok (.iload_n 3, 1) := by decide +kernel
theorem dX3_greatestDivisor_15 : decode cX3_greatestDivisor 15 = .ok (.ifCond .eq 19, 3) := by decide +kernel
theorem dX3_greatestDivisor_18 : decode cX3_greatestDivisor 18 = .ok (.iload_n 2, 1) := by decide +kernel
theorem dX3_greatestDivisor_19 : decode cX3_greatestDivisor 19 = .ok (.iload_n 3, 1) := by decide +kernel
theorem dX3_greatestDivisor_20 : decode cX3_greatestDivisor 20 = .ok (.irem, 1) := by decide +kernel
theorem dX3_greatestDivisor_21 : decode cX3_greatestDivisor 21 = .ok (.istore 5, 2) := by decide +kernel
theorem dX3_greatestDivisor_23 : decode cX3_greatestDivisor 23 = .ok (.iload_n 3, 1) := by decide +kernel
theorem dX3_greatestDivisor_24 : decode cX3_greatestDivisor 24 = .ok (.istore_n 2, 1) := by decide +kernel
theorem dX3_greatestDivisor_25 : decode cX3_greatestDivisor 25 = .ok (.iload 5, 2) := by decide +kernel
theorem dX3_greatestDivisor_27 : decode cX3_greatestDivisor 27 = .ok (.istore_n 3, 1) := by decide +kernel
theorem dX3_greatestDivisor_28 : decode cX3_greatestDivisor 28 = .ok (.iinc 4 1, 3) := by decide +kernel
theorem dX3_greatestDivisor_31 : decode cX3_greatestDivisor 31 = .ok (.goto (-24), 3) := by decide +kernel
theorem dX3_greatestDivisor_34 : decode cX3_greatestDivisor 34 = .ok (.iload_n 2, 1) := by decide +kernel
theorem dX3_greatestDivisor_35 : decode cX3_greatestDivisor 35 = .ok (.ireturn, 1) := by decide +kernel
theorem dX3_fitHandle_0 : decode cX3_fitHandle 0 = .ok (.iload_n 2, 1) := by decide +kernel
theorem dX3_fitHandle_1 : decode cX3_fitHandle 1 = .ok (.ifCond .eq 7, 3) := by decide +kernel
theorem dX3_fitHandle_4 : decode cX3_fitHandle 4 = .ok (.iconst 4, 1) := by decide +kernel
theorem dX3_fitHandle_5 : decode cX3_fitHandle 5 = .ok (.goto 4, 3) := by decide +kernel
theorem dX3_fitHandle_8 : decode cX3_fitHandle 8 = .ok (.iconst 2, 1) := by decide +kernel
theorem dX3_fitHandle_9 : decode cX3_fitHandle 9 = .ok (.istore 4, 2) := by decide +kernel
theorem dX3_fitHandle_11 : decode cX3_fitHandle 11 = .ok (.iload_n 2, 1) := by decide +kernel
theorem dX3_fitHandle_12 : decode cX3_fitHandle 12 = .ok (.ifCond .eq 7, 3) := by decide +kernel
theorem dX3_fitHandle_15 : decode cX3_fitHandle 15 = .ok (.iconst 2, 1) := by decide +kernel
theorem dX3_fitHandle_16 : decode cX3_fitHandle 16 = .ok (.goto 4, 3) := by decide +kernel
theorem dX3_fitHandle_19 : decode cX3_fitHandle 19 = .ok (.iconst 4, 1) := by decide +kernel
theorem dX3_fitHandle_20 : decode cX3_fitHandle 20 = .ok (.istore 5, 2) := by decide +kernel
theorem dX3_fitHandle_22 : decode cX3_fitHandle 22 = .ok (.aload_n 0, 1) := by decide +kernel
theorem dX3_fitHandle_23 : decode cX3_fitHandle 23 = .ok (.iload_n 1, 1) := by decide +kernel
theorem dX3_fitHandle_24 : decode cX3_fitHandle 24 = .ok (.iload_n 2, 1) := by decide +kernel
theorem dX3_fitHandle_25 : decode cX3_fitHandle 25 = .ok (.ifCond .eq 8, 3) := by decide +kernel
theorem dX3_fitHandle_28 : decode cX3_fitHandle 28 = .ok (.bipush 7, 2) := by decide +kernel
theorem dX3_fitHandle_30 : decode cX3_fitHandle 30 = .ok (.goto 5, 3) := by decide +kernel
theorem dX3_fitHandle_33 : decode cX3_fitHandle 33 = .ok (.bipush 6, 2) := by decide +kernel
theorem dX3_fitHandle_35 : decode cX3_fitHandle 35 = .ok (.invokevirtual 33, 3) := by decide +kernel
theorem dX3_fitHandle_38 : decode cX3_fitHandle 38 = .ok (.i2l, 1) := by decide +kernel
theorem dX3_fitHandle_39 : decode cX3_fitHandle 39 = .ok (.lstore 6, 2) := by decide +kernel
theorem dX3_fitHandle_41 : decode cX3_fitHandle 41 = .ok (.aload_n 0, 1) := by decide +kernel
theorem dX3_fitHandle_42 : decode cX3_fitHandle 42 = .ok (.iload_n 1, 1) := by decide +kernel
theorem dX3_fitHandle_43 : decode cX3_fitHandle 43 = .ok (.iload_n 2, 1) := by decide +kernel
theorem dX3_fitHandle_44 : decode cX3_fitHandle 44 = .ok (.ifCond .eq 8, 3) := by decide +kernel
theorem dX3_fitHandle_47 : decode cX3_fitHandle 47 = .ok (.bipush 6, 2) := by decide +kernel
theorem dX3_fitHandle_49 : decode cX3_fitHandle 49 = .ok (.goto 5, 3) := by decide +kernel
theorem dX3_fitHandle_52 : decode cX3_fitHandle 52 = .ok (.bipush 7, 2) := by decide +kernel
theorem dX3_fitHandle_54 : decode cX3_fitHandle 54 = .ok (.invokevirtual 33, 3) := by decide +kernel
theorem dX3_fitHandle_57 : decode cX3_fitHandle 57 = .ok (.i2l, 1) := by decide +kernel
theorem dX3_fitHandle_58 : decode cX3_fitHandle 58 = .ok (.lstore 8, 2) := by decide +kernel
theorem dX3_fitHandle_60 : decode cX3_fitHandle 60 = .ok (.iconst 0, 1) := by decide +kernel
theorem dX3_fitHandle_61 : decode cX3_fitHandle 61 = .ok (.istore 10, 2) := by decide +kernel
theorem dX3_fitHandle_63 : decode cX3_fitHandle 63 = .ok (.iload 10, 2) := by decide +kernel
theorem dX3_fitHandle_65 : decode cX3_fitHandle 65 = .ok (.iconst 2, 1) := by decide +kernel
theorem dX3_fitHandle_66 : decode cX3_fitHandle 66 = .ok (.if_icmp .ge 40, 3) := by decide +kernel
theorem dX3_fitHandle_69 : decode cX3_fitHandle 69 = .ok (.aload_n 0, 1) := by decide +kernel
theorem dX3_fitHandle_70 : decode cX3_fitHandle 70 = .ok (.iload_n 1, 1) := by decide +kernel
theorem dX3_fitHandle_71 : decode cX3_fitHandle 71 = .ok (.iload 4, 2) := by decide +kernel
theorem dX3_fitHandle_73 : decode cX3_fitHandle 73 = .ok (.iload 10, 2) := by decide +kernel
theorem dX3_fitHandle_75 : decode cX3_fitHandle 75 = .ok (.iadd, 1) := by decide +kernel
theorem dX3_fitHandle_76 : decode cX3_fitHandle 76 = .ok (.aload_n 3, 1) := by decide +kernel
theorem dX3_fitHandle_77 : decode cX3_fitHandle 77 = .ok (.lload 6, 2) := by decide +kernel
theorem dX3_fitHandle_79 : decode cX3_fitHandle 79 = .ok (.lneg, 1) := by decide +kernel
theorem dX3_fitHandle_80 : decode cX3_fitHandle 80 = .ok (.aload_n 0, 1) := by decide +kernel
theorem dX3_fitHandle_81 : decode cX3_fitHandle 81 = .ok (.iload_n 1, 1) := by decide +kernel
theorem dX3_fitHandle_82 : decode cX3_fitHandle 82 = .ok (.iload 5, 2) := by decide +kernel
theorem dX3_fitHandle_84 : decode cX3_fitHandle 84 = .ok (.iload 10, 2) := by decide +kernel
theorem dX3_fitHandle_86 : decode cX3_fitHandle 86 = .ok (.iadd, 1) := by decide +kernel
theorem dX3_fitHandle_87 : decode cX3_fitHandle 87 = .ok (.invokevirtual 33, 3) := by decide +kernel
theorem dX3_fitHandle_90 : decode cX3_fitHandle 90 = .ok (.i2l, 1) := by decide +kernel
theorem dX3_fitHandle_91 : decode cX3_fitHandle 91 = .ok (.lmul, 1) := by decide +kernel
theorem dX3_fitHandle_92 : decode cX3_fitHandle 92 = .ok (.lload 8, 2) := by decide +kernel
theorem dX3_fitHandle_94 : decode cX3_fitHandle 94 = .ok (.invokevirtual 53, 3) := by decide +kernel
theorem dX3_fitHandle_97 : decode cX3_fitHandle 97 = .ok (.invokevirtual 42, 3) := by decide +kernel
theorem dX3_fitHandle_100 : decode cX3_fitHandle 100 = .ok (.iinc 10 1, 3) := by decide +kernel
theorem dX3_fitHandle_103 : decode cX3_fitHandle 103 = .ok (.goto (-40), 3) := by decide +kernel
theorem dX3_fitHandle_106 : decode cX3_fitHandle 106 = .ok (.return_, 1) := by decide +kernel
theorem dX3_handlesFit_0 : decode cX3_handlesFit 0 = .ok (.aload_n 0, 1) := by decide +kernel
theorem dX3_handlesFit_1 : decode cX3_handlesFit 1 = .ok (.iload_n 1, 1) := by decide +kernel
theorem dX3_handlesFit_2 : decode cX3_handlesFit 2 = .ok (.bipush 6, 2) := by decide +kernel
theorem dX3_handlesFit_4 : decode cX3_handlesFit 4 = .ok (.invokevirtual 33, 3) := by decide +kernel
theorem dX3_handlesFit_7 : decode cX3_handlesFit 7 = .ok (.i2l, 1) := by decide +kernel
theorem dX3_handlesFit_8 : decode cX3_handlesFit 8 = .ok (.lstore_n 2, 1) := by decide +kernel
theorem dX3_handlesFit_9 : decode cX3_handlesFit 9 = .ok (.aload_n 0, 1) := by decide +kernel
theorem dX3_handlesFit_10 : decode cX3_handlesFit 10 = .ok (.iload_n 1, 1) := by decide +kernel
theorem dX3_handlesFit_11 : decode cX3_handlesFit 11 = .ok (.bipush 7, 2) := by decide +kernel
theorem dX3_handlesFit_13 : decode cX3_handlesFit 13 = .ok (.invokevirtual 33, 3) := by decide +kernel
theorem dX3_handlesFit_16 : decode cX3_handlesFit 16 = .ok (.i2l, 1) := by decide +kernel
theorem dX3_handlesFit_17 : decode cX3_handlesFit 17 = .ok (.lstore 4, 2) := by decide +kernel
theorem dX3_handlesFit_19 : decode cX3_handlesFit 19 = .ok (.aload_n 0, 1) := by decide +kernel
theorem dX3_handlesFit_20 : decode cX3_handlesFit 20 = .ok (.iload_n 1, 1) := by decide +kernel
theorem dX3_handlesFit_21 : decode cX3_handlesFit 21 = .ok (.iconst 2, 1) := by decide +kernel
theorem dX3_handlesFit_22 : decode cX3_handlesFit 22 = .ok (.invokevirtual 33, 3) := by decide +kernel
theorem dX3_handlesFit_25 : decode cX3_handlesFit 25 = .ok (.i2l, 1) := by decide +kernel
theorem dX3_handlesFit_26 : decode cX3_handlesFit 26 = .ok (.lload 4, 2) := by decide +kernel
theorem dX3_handlesFit_28 : decode cX3_handlesFit 28 = .ok (.lmul, 1) := by decide +kernel
theorem dX3_handlesFit_29 : decode cX3_handlesFit 29 = .ok (.lload_n 2, 1) := by decide +kernel
theorem dX3_handlesFit_30 : decode cX3_handlesFit 30 = .ok (.lneg, 1) := by decide +kernel
theorem dX3_handlesFit_31 : decode cX3_handlesFit 31 = .ok (.aload_n 0, 1) := by decide +kernel
theorem dX3_handlesFit_32 : decode cX3_handlesFit 32 = .ok (.iload_n 1, 1) := by decide +kernel
theorem dX3_handlesFit_33 : decode cX3_handlesFit 33 = .ok (.iconst 4, 1) := by decide +kernel
theorem dX3_handlesFit_34 : decode cX3_handlesFit 34 = .ok (.invokevirtual 33, 3) := by decide +kernel
theorem dX3_handlesFit_37 : decode cX3_handlesFit 37 = .ok (.i2l, 1) := by decide +kernel
theorem dX3_handlesFit_38 : decode cX3_handlesFit 38 = .ok (.lmul, 1) := by decide +kernel
theorem dX3_handlesFit_39 : decode cX3_handlesFit 39 = .ok (.lcmp, 1) := by decide +kernel
theorem dX3_handlesFit_40 : decode cX3_handlesFit 40 = .ok (.ifCond .ne 31, 3) := by decide +kernel
theorem dX3_handlesFit_43 : decode cX3_handlesFit 43 = .ok (.aload_n 0, 1) := by decide +kernel
theorem dX3_handlesFit_44 : decode cX3_handlesFit 44 = .ok (.iload_n 1, 1) := by decide +kernel
theorem dX3_handlesFit_45 : decode cX3_handlesFit 45 = .ok (.iconst 3, 1) := by decide +kernel
theorem dX3_handlesFit_46 : decode cX3_handlesFit 46 = .ok (.invokevirtual 33, 3) := by decide +kernel
theorem dX3_handlesFit_49 : decode cX3_handlesFit 49 = .ok (.i2l, 1) := by decide +kernel
theorem dX3_handlesFit_50 : decode cX3_handlesFit 50 = .ok (.lload 4, 2) := by decide +kernel
theorem dX3_handlesFit_52 : decode cX3_handlesFit 52 = .ok (.lmul, 1) := by decide +kernel
theorem dX3_handlesFit_53 : decode cX3_handlesFit 53 = .ok (.lload_n 2, 1) := by decide +kernel
theorem dX3_handlesFit_54 : decode cX3_handlesFit 54 = .ok (.lneg, 1) := by decide +kernel
theorem dX3_handlesFit_55 : decode cX3_handlesFit 55 = .ok (.aload_n 0, 1) := by decide +kernel
theorem dX3_handlesFit_56 : decode cX3_handlesFit 56 = .ok (.iload_n 1, 1) := by decide +kernel
theorem dX3_handlesFit_57 : decode cX3_handlesFit 57 = .ok (.iconst 5, 1) := by decide +kernel
theorem dX3_handlesFit_58 : decode cX3_handlesFit 58 = .ok (.invokevirtual 33, 3) := by decide +kernel
theorem dX3_handlesFit_61 : decode cX3_handlesFit 61 = .ok (.i2l, 1) := by decide +kernel
theorem dX3_handlesFit_62 : decode cX3_handlesFit 62 = .ok (.lmul, 1) := by decide +kernel
theorem dX3_handlesFit_63 : decode cX3_handlesFit 63 = .ok (.lcmp, 1) := by decide +kernel
theorem dX3_handlesFit_64 : decode cX3_handlesFit 64 = .ok (.ifCond .ne 7, 3) := by decide +kernel
theorem dX3_handlesFit_67 : decode cX3_handlesFit 67 = .ok (.iconst 1, 1) := by decide +kernel
theorem dX3_handlesFit_68 : decode cX3_handlesFit 68 = .ok (.goto 4, 3) := by decide +kernel
theorem dX3_handlesFit_71 : decode cX3_handlesFit 71 = .ok (.iconst 0, 1) := by decide +kernel
theorem dX3_handlesFit_72 : decode cX3_handlesFit 72 = .ok (.ireturn, 1) := by decide +kernel
theorem dX3_moveBy_0 : decode cX3_moveBy 0 = .ok (.aload_n 0, 1) := by decide +kernel
theorem dX3_moveBy_1 : decode cX3_moveBy 1 = .ok (.iload_n 1, 1) := by decide +kernel
theorem dX3_moveBy_2 : decode cX3_moveBy 2 = .ok (.iconst 0, 1) := by decide +kernel
theorem dX3_moveBy_3 : decode cX3_moveBy 3 = .ok (.aload 4, 2) := by decide +kernel
theorem dX3_moveBy_5 : decode cX3_moveBy 5 = .ok (.aload_n 0, 1) := by decide +kernel
theorem dX3_moveBy_6 : decode cX3_moveBy 6 = .ok (.iload_n 1, 1) := by decide +kernel
theorem dX3_moveBy_7 : decode cX3_moveBy 7 = .ok (.iconst 0, 1) := by decide +kernel
theorem dX3_moveBy_8 : decode cX3_moveBy 8 = .ok (.invokevirtual 33, 3) := by decide +kernel
theorem dX3_moveBy_11 : decode cX3_moveBy 11 = .ok (.iload_n 2, 1) := by decide +kernel
theorem dX3_moveBy_12 : decode cX3_moveBy 12 = .ok (.iadd, 1) := by decide +kernel
theorem dX3_moveBy_13 : decode cX3_moveBy 13 = .ok (.i2l, 1) := by decide +kernel
theorem dX3_moveBy_14 : decode cX3_moveBy 14 = .ok (.lconst 1, 1) := by decide +kernel
theorem dX3_moveBy_15 : decode cX3_moveBy 15 = .ok (.invokevirtual 53, 3) := by decide +kernel
theorem dX3_moveBy_18 : decode cX3_moveBy 18 = .ok (.invokevirtual 42, 3) := by decide +kernel
theorem dX3_moveBy_21 : decode cX3_moveBy 21 = .ok (.aload_n 0, 1) := by decide +kernel
theorem dX3_moveBy_22 : decode cX3_moveBy 22 = .ok (.iload_n 1, 1) := by decide +kernel
theorem dX3_moveBy_23 : decode cX3_moveBy 23 = .ok (.iconst 1, 1) := by decide +kernel
theorem dX3_moveBy_24 : decode cX3_moveBy 24 = .ok (.aload 4, 2) := by decide +kernel
theorem dX3_moveBy_26 : decode cX3_moveBy 26 = .ok (.aload_n 0, 1) := by decide +kernel
theorem dX3_moveBy_27 : decode cX3_moveBy 27 = .ok (.iload_n 1, 1) := by decide +kernel
theorem dX3_moveBy_28 : decode cX3_moveBy 28 = .ok (.iconst 1, 1) := by decide +kernel
theorem dX3_moveBy_29 : decode cX3_moveBy 29 = .ok (.invokevirtual 33, 3) := by decide +kernel
theorem dX3_moveBy_32 : decode cX3_moveBy 32 = .ok (.iload_n 3, 1) := by decide +kernel
theorem dX3_moveBy_33 : decode cX3_moveBy 33 = .ok (.iadd, 1) := by decide +kernel
theorem dX3_moveBy_34 : decode cX3_moveBy 34 = .ok (.i2l, 1) := by decide +kernel
theorem dX3_moveBy_35 : decode cX3_moveBy 35 = .ok (.lconst 1, 1) := by decide +kernel
theorem dX3_moveBy_36 : decode cX3_moveBy 36 = .ok (.invokevirtual 53, 3) := by decide +kernel
theorem dX3_moveBy_39 : decode cX3_moveBy 39 = .ok (.invokevirtual 42, 3) := by decide +kernel
theorem dX3_moveBy_42 : decode cX3_moveBy 42 = .ok (.return_, 1) := by decide +kernel
theorem dX3_addCorner_0 : decode cX3_addCorner 0 = .ok (.aload_n 0, 1) := by decide +kernel
theorem dX3_addCorner_1 : decode cX3_addCorner 1 = .ok (.getfield 21, 3) := by decide +kernel
theorem dX3_addCorner_4 : decode cX3_addCorner 4 = .ok (.bipush 12, 2) := by decide +kernel
theorem dX3_addCorner_6 : decode cX3_addCorner 6 = .ok (.if_icmp .lt 4, 3) := by decide +kernel
theorem dX3_addCorner_9 : decode cX3_addCorner 9 = .ok (.return_, 1) := by decide +kernel
theorem dX3_addCorner_10 : decode cX3_addCorner 10 = .ok (.iconst 0, 1) := by decide +kernel
theorem dX3_addCorner_11 : decode cX3_addCorner 11 = .ok (.istore_n 3, 1) := by decide +kernel
theorem dX3_addCorner_12 : decode cX3_addCorner 12 = .ok (.iload_n 3, 1) := by decide +kernel
theorem dX3_addCorner_13 : decode cX3_addCorner 13 = .ok (.bipush 8, 2) := by decide +kernel
theorem dX3_addCorner_15 : decode cX3_addCorner 15 = .ok (.if_icmp .ge 19, 3) := by decide +kernel
theorem dX3_addCorner_18 : decode cX3_addCorner 18 = .ok (.aload_n 0, 1) := by decide +kernel
theorem dX3_addCorner_19 : decode cX3_addCorner 19 = .ok (.aload_n 0, 1) := by decide +kernel
theorem dX3_addCorner_20 : decode cX3_addCorner 20 = .ok (.getfield 21, 3) := by decide +kernel
theorem dX3_addCorner_23 : decode cX3_addCorner 23 = .ok (.iload_n 3, 1) := by decide +kernel
theorem dX3_addCorner_24 : decode cX3_addCorner 24 = .ok (.iconst 0, 1) := by decide +kernel
theorem dX3_addCorner_25 : decode cX3_addCorner 25 = .ok (.invokevirtual 42, 3) := by decide +kernel
theorem dX3_addCorner_28 : decode cX3_addCorner 28 = .ok (.iinc 3 1, 3) := by decide +kernel
theorem dX3_addCorner_31 : decode cX3_addCorner 31 = .ok (.goto (-19), 3) := by decide +kernel
theorem dX3_addCorner_34 : decode cX3_addCorner 34 = .ok (.aload_n 0, 1) := by decide +kernel
theorem dX3_addCorner_35 : decode cX3_addCorner 35 = .ok (.aload_n 0, 1) := by decide +kernel
theorem dX3_addCorner_36 : decode cX3_addCorner 36 = .ok (.getfield 21, 3) := by decide +kernel
theorem dX3_addCorner_39 : decode cX3_addCorner 39 = .ok (.iconst 0, 1) := by decide +kernel
theorem dX3_addCorner_40 : decode cX3_addCorner 40 = .ok (.iload_n 1, 1) := by decide +kernel
theorem dX3_addCorner_41 : decode cX3_addCorner 41 = .ok (.invokevirtual 42, 3) := by decide +kernel
theorem dX3_addCorner_44 : decode cX3_addCorner 44 = .ok (.aload_n 0, 1) := by decide +kernel
theorem dX3_addCorner_45 : decode cX3_addCorner 45 = .ok (.aload_n 0, 1) := by decide +kernel
theorem dX3_addCorner_46 : decode cX3_addCorner 46 = .ok (.getfield 21, 3) := by decide +kernel
theorem dX3_addCorner_49 : decode cX3_addCorner 49 = .ok (.iconst 1, 1) := by decide +kernel
theorem dX3_addCorner_50 : decode cX3_addCorner 50 = .ok (.iload_n 2, 1) := by decide +kernel
theorem dX3_addCorner_51 : decode cX3_addCorner 51 = .ok (.invokevirtual 42, 3) := by decide +kernel
theorem dX3_addCorner_54 : decode cX3_addCorner 54 = .ok (.aload_n 0, 1) := by decide +kernel
theorem dX3_addCorner_55 : decode cX3_addCorner 55 = .ok (.dup, 1) := by decide +kernel
theorem dX3_addCorner_56 : decode cX3_addCorner 56 = .ok (.getfield 21, 3) := by decide +kernel
theorem dX3_addCorner_59 : decode cX3_addCorner 59 = .ok (.iconst 1, 1) := by decide +kernel
theorem dX3_addCorner_60 : decode cX3_addCorner 60 = .ok (.iadd, 1) := by decide +kernel
theorem dX3_addCorner_61 : decode cX3_addCorner 61 = .ok (.putfield 21, 3) := by decide +kernel
theorem dX3_addCorner_64 : decode cX3_addCorner 64 = .ok (.return_, 1) := by decide +kernel
theorem dX3_copyNode_0 : decode cX3_copyNode 0 = .ok (.iconst 0, 1) := by decide +kernel
theorem dX3_copyNode_1 : decode cX3_copyNode 1 = .ok (.istore 4, 2) := by decide +kernel
theorem dX3_copyNode_3 : decode cX3_copyNode 3 = .ok (.iload 4, 2) := by decide +kernel
theorem dX3_copyNode_5 : decode cX3_copyNode 5 = .ok (.bipush 8, 2) := by decide +kernel
theorem dX3_copyNode_7 : decode cX3_copyNode 7 = .ok (.if_icmp .ge 23, 3) := by decide +kernel
theorem dX3_copyNode_10 : decode cX3_copyNode 10 = .ok (.aload_n 0, 1) := by decide +kernel
theorem dX3_copyNode_11 : decode cX3_copyNode 11 = .ok (.iload_n 1, 1) := by decide +kernel
theorem dX3_copyNode_12 : decode cX3_copyNode 12 = .ok (.iload 4, 2) := by decide +kernel
theorem dX3_copyNode_14 : decode cX3_copyNode 14 = .ok (.aload_n 2, 1) := by decide +kernel
theorem dX3_copyNode_15 : decode cX3_copyNode 15 = .ok (.iload_n 3, 1) := by decide +kernel
theorem dX3_copyNode_16 : decode cX3_copyNode 16 = .ok (.iload 4, 2) := by decide +kernel
theorem dX3_copyNode_18 : decode cX3_copyNode 18 = .ok (.invokevirtual 33, 3) := by decide +kernel
theorem dX3_copyNode_21 : decode cX3_copyNode 21 = .ok (.invokevirtual 42, 3) := by decide +kernel
theorem dX3_copyNode_24 : decode cX3_copyNode 24 = .ok (.iinc 4 1, 3) := by decide +kernel
theorem dX3_copyNode_27 : decode cX3_copyNode 27 = .ok (.goto (-24), 3) := by decide +kernel
theorem dX3_copyNode_30 : decode cX3_copyNode 30 = .ok (.return_, 1) := by decide +kernel
theorem dX3_addCopy_0 : decode cX3_addCopy 0 = .ok (.aload_n 0, 1) := by decide +kernel
theorem dX3_addCopy_1 : decode cX3_addCopy 1 = .ok (.getfield 21, 3) := by decide +kernel
theorem dX3_addCopy_4 : decode cX3_addCopy 4 = .ok (.bipush 12, 2) := by decide +kernel
theorem dX3_addCopy_6 : decode cX3_addCopy 6 = .ok (.if_icmp .ge 23, 3) := by decide +kernel
theorem dX3_addCopy_9 : decode cX3_addCopy 9 = .ok (.aload_n 0, 1) := by decide +kernel
theorem dX3_addCopy_10 : decode cX3_addCopy 10 = .ok (.aload_n 0, 1) := by decide +kernel
theorem dX3_addCopy_11 : decode cX3_addCopy 11 = .ok (.getfield 21, 3) := by decide +kernel
theorem dX3_addCopy_14 : decode cX3_addCopy 14 = .ok (.aload_n 1, 1) := by decide +kernel
theorem dX3_addCopy_15 : decode cX3_addCopy 15 = .ok (.iload_n 2, 1) := by decide +kernel
theorem dX3_addCopy_16 : decode cX3_addCopy 16 = .ok (.invokevirtual 59, 3) := by decide +kernel
theorem dX3_addCopy_19 : decode cX3_addCopy 19 = .ok (.aload_n 0, 1) := by decide +kernel
theorem dX3_addCopy_20 : decode cX3_addCopy 20 = .ok (.dup, 1) := by decide +kernel
theorem dX3_addCopy_21 : decode cX3_addCopy 21 = .ok (.getfield 21, 3) := by decide +kernel
theorem dX3_addCopy_24 : decode cX3_addCopy 24 = .ok (.iconst 1, 1) := by decide +kernel
theorem dX3_addCopy_25 : decode cX3_addCopy 25 = .ok (.iadd, 1) := by decide +kernel
theorem dX3_addCopy_26 : decode cX3_addCopy 26 = .ok (.putfield 21, 3) := by decide +kernel
theorem dX3_addCopy_29 : decode cX3_addCopy 29 = .ok (.return_, 1) := by decide +kernel
theorem dX3_addNodesOf_0 : decode cX3_addNodesOf 0 = .ok (.iconst 0, 1) := by decide +kernel
theorem dX3_addNodesOf_1 : decode cX3_addNodesOf 1 = .ok (.istore_n 2, 1) := by decide +kernel
theorem dX3_addNodesOf_2 : decode cX3_addNodesOf 2 = .ok (.iload_n 2, 1) := by decide +kernel
theorem dX3_addNodesOf_3 : decode cX3_addNodesOf 3 = .ok (.aload_n 1, 1) := by decide +kernel
theorem dX3_addNodesOf_4 : decode cX3_addNodesOf 4 = .ok (.getfield 21, 3) := by decide +kernel
theorem dX3_addNodesOf_7 : decode cX3_addNodesOf 7 = .ok (.if_icmp .ge 15, 3) := by decide +kernel
theorem dX3_addNodesOf_10 : decode cX3_addNodesOf 10 = .ok (.aload_n 0, 1) := by decide +kernel
theorem dX3_addNodesOf_11 : decode cX3_addNodesOf 11 = .ok (.aload_n 1, 1) := by decide +kernel
theorem dX3_addNodesOf_12 : decode cX3_addNodesOf 12 = .ok (.iload_n 2, 1) := by decide +kernel
theorem dX3_addNodesOf_13 : decode cX3_addNodesOf 13 = .ok (.invokevirtual 63, 3) := by decide +kernel
theorem dX3_addNodesOf_16 : decode cX3_addNodesOf 16 = .ok (.iinc 2 1, 3) := by decide +kernel
theorem dX3_addNodesOf_19 : decode cX3_addNodesOf 19 = .ok (.goto (-17), 3) := by decide +kernel
theorem dX3_addNodesOf_22 : decode cX3_addNodesOf 22 = .ok (.return_, 1) := by decide +kernel
theorem dX3_dropNode_0 : decode cX3_dropNode 0 = .ok (.iload_n 1, 1) := by decide +kernel
theorem dX3_dropNode_1 : decode cX3_dropNode 1 = .ok (.istore_n 2, 1) := by decide +kernel
theorem dX3_dropNode_2 : decode cX3_dropNode 2 = .ok (.iload_n 2, 1) := by decide +kernel
theorem dX3_dropNode_3 : decode cX3_dropNode 3 = .ok (.aload_n 0, 1) := by decide +kernel
theorem dX3_dropNode_4 : decode cX3_dropNode 4 = .ok (.getfield 21, 3) := by decide +kernel
theorem dX3_dropNode_7 : decode cX3_dropNode 7 = .ok (.iconst 1, 1) := by decide +kernel
theorem dX3_dropNode_8 : decode cX3_dropNode 8 = .ok (.isub, 1) := by decide +kernel
theorem dX3_dropNode_9 : decode cX3_dropNode 9 = .ok (.if_icmp .ge 18, 3) := by decide +kernel
theorem dX3_dropNode_12 : decode cX3_dropNode 12 = .ok (.aload_n 0, 1) := by decide +kernel
theorem dX3_dropNode_13 : decode cX3_dropNode 13 = .ok (.iload_n 2, 1) := by decide +kernel
theorem dX3_dropNode_14 : decode cX3_dropNode 14 = .ok (.aload_n 0, 1) := by decide +kernel
theorem dX3_dropNode_15 : decode cX3_dropNode 15 = .ok (.iload_n 2, 1) := by decide +kernel
theorem dX3_dropNode_16 : decode cX3_dropNode 16 = .ok (.iconst 1, 1) := by decide +kernel
theorem dX3_dropNode_17 : decode cX3_dropNode 17 = .ok (.iadd, 1) := by decide +kernel
theorem dX3_dropNode_18 : decode cX3_dropNode 18 = .ok (.invokevirtual 59, 3) := by decide +kernel
theorem dX3_dropNode_21 : decode cX3_dropNode 21 = .ok (.iinc 2 1, 3) := by decide +kernel
theorem dX3_dropNode_24 : decode cX3_dropNode 24 = .ok (.goto (-22), 3) := by decide +kernel
theorem dX3_dropNode_27 : decode cX3_dropNode 27 = .ok (.aload_n 0, 1) := by decide +kernel
theorem dX3_dropNode_28 : decode cX3_dropNode 28 = .ok (.dup, 1) := by decide +kernel
theorem dX3_dropNode_29 : decode cX3_dropNode 29 = .ok (.getfield 21, 3) := by decide +kernel
theorem dX3_dropNode_32 : decode cX3_dropNode 32 = .ok (.iconst 1, 1) := by decide +kernel
theorem dX3_dropNode_33 : decode cX3_dropNode 33 = .ok (.isub, 1) := by decide +kernel
theorem dX3_dropNode_34 : decode cX3_dropNode 34 = .ok (.putfield 21, 3) := by decide +kernel
theorem dX3_dropNode_37 : decode cX3_dropNode 37 = .ok (.return_, 1) := by decide +kernel
theorem dX3_doubleNode_0 : decode cX3_doubleNode 0 = .ok (.aload_n 0, 1) := by decide +kernel
theorem dX3_doubleNode_1 : decode cX3_doubleNode 1 = .ok (.getfield 21, 3) := by decide +kernel
theorem dX3_doubleNode_4 : decode cX3_doubleNode 4 = .ok (.bipush 12, 2) := by decide +kernel
theorem dX3_doubleNode_6 : decode cX3_doubleNode 6 = .ok (.if_icmp .lt 4, 3) := by decide +kernel
theorem dX3_doubleNode_9 : decode cX3_doubleNode 9 = .ok (.return_, 1) := by decide +kernel
theorem dX3_doubleNode_10 : decode cX3_doubleNode 10 = .ok (.aload_n 0, 1) := by decide +kernel
theorem dX3_doubleNode_11 : decode cX3_doubleNode 11 = .ok (.getfield 21, 3) := by decide +kernel
theorem dX3_doubleNode_14 : decode cX3_doubleNode 14 = .ok (.istore_n 2, 1) := by decide +kernel
theorem dX3_doubleNode_15 : decode cX3_doubleNode 15 = .ok (.iload_n 2, 1) := by decide +kernel
theorem dX3_doubleNode_16 : decode cX3_doubleNode 16 = .ok (.iload_n 1, 1) := by decide +kernel
theorem dX3_doubleNode_17 : decode cX3_doubleNode 17 = .ok (.if_icmp .le 18, 3) := by decide +kernel
theorem dX3_doubleNode_20 : decode cX3_doubleNode 20 = .ok (.aload_n 0, 1) := by decide +kernel
theorem dX3_doubleNode_21 : decode cX3_doubleNode 21 = .ok (.iload_n 2, 1) := by decide +kernel
theorem dX3_doubleNode_22 : decode cX3_doubleNode 22 = .ok (.aload_n 0, 1) := by decide +kernel
theorem dX3_doubleNode_23 : decode cX3_doubleNode 23 = .ok (.iload_n 2, 1) := by decide +kernel
theorem dX3_doubleNode_24 : decode cX3_doubleNode 24 = .ok (.iconst 1, 1) := by decide +kernel
theorem dX3_doubleNode_25 : decode cX3_doubleNode 25 = .ok (.isub, 1) := by decide +kernel
theorem dX3_doubleNode_26 : decode cX3_doubleNode 26 = .ok (.invokevirtual 59, 3) := by decide +kernel
theorem dX3_doubleNode_29 : decode cX3_doubleNode 29 = .ok (.iinc 2 (-1), 3) := by decide +kernel
theorem dX3_doubleNode_32 : decode cX3_doubleNode 32 = .ok (.goto (-17), 3) := by decide +kernel
theorem dX3_doubleNode_35 : decode cX3_doubleNode 35 = .ok (.aload_n 0, 1) := by decide +kernel
theorem dX3_doubleNode_36 : decode cX3_doubleNode 36 = .ok (.dup, 1) := by decide +kernel
theorem dX3_doubleNode_37 : decode cX3_doubleNode 37 = .ok (.getfield 21, 3) := by decide +kernel
theorem dX3_doubleNode_40 : decode cX3_doubleNode 40 = .ok (.iconst 1, 1) := by decide +kernel
theorem dX3_doubleNode_41 : decode cX3_doubleNode 41 = .ok (.iadd, 1) := by decide +kernel
theorem dX3_doubleNode_42 : decode cX3_doubleNode 42 = .ok (.putfield 21, 3) := by decide +kernel
theorem dX3_doubleNode_45 : decode cX3_doubleNode 45 = .ok (.return_, 1) := by decide +kernel
theorem dX3_cutSegment_0 : decode cX3_cutSegment 0 = .ok (.iload_n 1, 1) := by decide +kernel
theorem dX3_cutSegment_1 : decode cX3_cutSegment 1 = .ok (.iconst 1, 1) := by decide +kernel
theorem dX3_cutSegment_2 : decode cX3_cutSegment 2 = .ok (.iadd, 1) := by decide +kernel
theorem dX3_cutSegment_3 : decode cX3_cutSegment 3 = .ok (.istore 6, 2) := by decide +kernel
theorem dX3_cutSegment_5 : decode cX3_cutSegment 5 = .ok (.aload_n 0, 1) := by decide +kernel
theorem dX3_cutSegment_6 : decode cX3_cutSegment 6 = .ok (.iload_n 1, 1) := by decide +kernel
theorem dX3_cutSegment_7 : decode cX3_cutSegment 7 = .ok (.invokevirtual 67, 3) := by decide +kernel
theorem dX3_cutSegment_10 : decode cX3_cutSegment 10 = .ok (.ifCond .ne 7, 3) := by decide +kernel
theorem dX3_cutSegment_13 : decode cX3_cutSegment 13 = .ok (.iconst 0, 1) := by decide +kernel
theorem dX3_cutSegment_14 : decode cX3_cutSegment 14 = .ok (.goto 6, 3) := by decide +kernel
theorem dX3_cutSegment_17 : decode cX3_cutSegment 17 = .ok (.iload_n 1, 1) := by decide +kernel
theorem dX3_cutSegment_18 : decode cX3_cutSegment 18 = .ok (.iconst 2, 1) := by decide +kernel
theorem dX3_cutSegment_19 : decode cX3_cutSegment 19 = .ok (.iadd, 1) := by decide +kernel
theorem dX3_cutSegment_20 : decode cX3_cutSegment 20 = .ok (.istore 7, 2) := by decide +kernel
theorem dX3_cutSegment_22 : decode cX3_cutSegment 22 = .ok (.iload_n 3, 1) := by decide +kernel
theorem dX3_cutSegment_23 : decode cX3_cutSegment 23 = .ok (.i2l, 1) := by decide +kernel
theorem dX3_cutSegment_24 : decode cX3_cutSegment 24 = .ok (.iload_n 3, 1) := by decide +kernel
theorem dX3_cutSegment_25 : decode cX3_cutSegment 25 = .ok (.i2l, 1) := by decide +kernel
theorem dX3_cutSegment_26 : decode cX3_cutSegment 26 = .ok (.lmul, 1) := by decide +kernel
theorem dX3_cutSegment_27 : decode cX3_cutSegment 27 = .ok (.iload_n 3, 1) := by decide +kernel
theorem dX3_cutSegment_28 : decode cX3_cutSegment 28 = .ok (.i2l, 1) := by decide +kernel
theorem dX3_cutSegment_29 : decode cX3_cutSegment 29 = .ok (.lmul, 1) := by decide +kernel
theorem dX3_cutSegment_30 : decode cX3_cutSegment 30 = .ok (.lstore 8, 2) := by decide +kernel
theorem dX3_cutSegment_32 : decode cX3_cutSegment 32 = .ok (.aload_n 0, 1) := by decide +kernel
theorem dX3_cutSegment_33 : decode cX3_cutSegment 33 = .ok (.iload_n 1, 1) := by decide +kernel
theorem dX3_cutSegment_34 : decode cX3_cutSegment 34 = .ok (.invokevirtual 71, 3) := by decide +kernel
theorem dX3_cutSegment_37 : decode cX3_cutSegment 37 = .ok (.iconst 0, 1) := by decide +kernel
theorem dX3_cutSegment_38 : decode cX3_cutSegment 38 = .ok (.istore 10, 2) := by decide +kernel
theorem dX3_cutSegment_40 : decode cX3_cutSegment 40 = .ok (.iload 10, 2) := by decide +kernel
theorem dX3_cutSegment_42 : decode cX3_cutSegment 42 = .ok (.iconst 2, 1) := by decide +kernel
theorem dX3_cutSegment_43 : decode cX3_cutSegment 43 = .ok (.if_icmp .ge 135, 3) := by decide +kernel
theorem dX3_cutSegment_46 : decode cX3_cutSegment 46 = .ok (.aload 4, 2) := by decide +kernel
theorem dX3_cutSegment_48 : decode cX3_cutSegment 48 = .ok (.aload_n 0, 1) := by decide +kernel
theorem dX3_cutSegment_49 : decode cX3_cutSegment 49 = .ok (.iload_n 1, 1) := by decide +kernel
theorem dX3_cutSegment_50 : decode cX3_cutSegment 50 = .ok (.iload 7, 2) := by decide +kernel
theorem dX3_cutSegment_52 : decode cX3_cutSegment 52 = .ok (.iload 10, 2) := by decide +kernel
theorem dX3_cutSegment_54 : decode cX3_cutSegment 54 = .ok (.iload_n 2, 1) := by decide +kernel
theorem dX3_cutSegment_55 : decode cX3_cutSegment 55 = .ok (.iload_n 3, 1) := by decide +kernel
theorem dX3_cutSegment_56 : decode cX3_cutSegment 56 = .ok (.invokevirtual 74, 3) := by decide +kernel
theorem dX3_cutSegment_59 : decode cX3_cutSegment 59 = .ok (.aload_n 0, 1) := by decide +kernel
theorem dX3_cutSegment_60 : decode cX3_cutSegment 60 = .ok (.iload 6, 2) := by decide +kernel
theorem dX3_cutSegment_62 : decode cX3_cutSegment 62 = .ok (.iconst 0, 1) := by decide +kernel
theorem dX3_cutSegment_63 : decode cX3_cutSegment 63 = .ok (.iload 10, 2) := by decide +kernel
theorem dX3_cutSegment_65 : decode cX3_cutSegment 65 = .ok (.iadd, 1) := by decide +kernel
theorem dX3_cutSegment_66 : decode cX3_cutSegment 66 = .ok (.aload 5, 2) := by decide +kernel
theorem dX3_cutSegment_68 : decode cX3_cutSegment 68 = .ok (.aload 4, 2) := by decide +kernel
theorem dX3_cutSegment_70 : decode cX3_cutSegment 70 = .ok (.getfield 80, 3) := by decide +kernel
theorem dX3_cutSegment_73 : decode cX3_cutSegment 73 = .ok (.lload 8, 2) := by decide +kernel
theorem dX3_cutSegment_75 : decode cX3_cutSegment 75 = .ok (.invokevirtual 53, 3) := by decide +kernel
theorem dX3_cutSegment_78 : decode cX3_cutSegment 78 = .ok (.invokevirtual 42, 3) := by decide +kernel
theorem dX3_cutSegment_81 : decode cX3_cutSegment 81 = .ok (.aload_n 0, 1) := by decide +kernel
theorem dX3_cutSegment_82 : decode cX3_cutSegment 82 = .ok (.iload 6, 2) := by decide +kernel
theorem dX3_cutSegment_84 : decode cX3_cutSegment 84 = .ok (.iconst 2, 1) := by decide +kernel
theorem dX3_cutSegment_85 : decode cX3_cutSegment 85 = .ok (.iload 10, 2) := by decide +kernel
theorem dX3_cutSegment_87 : decode cX3_cutSegment 87 = .ok (.iadd, 1) := by decide +kernel
theorem dX3_cutSegment_88 : decode cX3_cutSegment 88 = .ok (.aload 5, 2) := by decide +kernel
theorem dX3_cutSegment_90 : decode cX3_cutSegment 90 = .ok (.aload 4, 2) := by decide +kernel
theorem dX3_cutSegment_92 : decode cX3_cutSegment 92 = .ok (.getfield 84, 3) := by decide +kernel
theorem dX3_cutSegment_95 : decode cX3_cutSegment 95 = .ok (.iload_n 3, 1) := by decide +kernel
theorem dX3_cutSegment_96 : decode cX3_cutSegment 96 = .ok (.i2l, 1) := by decide +kernel
theorem dX3_cutSegment_97 : decode cX3_cutSegment 97 = .ok (.lmul, 1) := by decide +kernel
theorem dX3_cutSegment_98 : decode cX3_cutSegment 98 = .ok (.aload 4, 2) := by decide +kernel
theorem dX3_cutSegment_100 : decode cX3_cutSegment 100 = .ok (.getfield 80, 3) := by decide +kernel
theorem dX3_cutSegment_103 : decode cX3_cutSegment 103 = .ok (.lsub, 1) := by decide +kernel
theorem dX3_cutSegment_104 : decode cX3_cutSegment 104 = .ok (.lload 8, 2) := by decide +kernel
theorem dX3_cutSegment_106 : decode cX3_cutSegment 106 = .ok (.invokevirtual 53, 3) := by decide +kernel
theorem dX3_cutSegment_109 : decode cX3_cutSegment 109 = .ok (.invokevirtual 42, 3) := by decide +kernel
theorem dX3_cutSegment_112 : decode cX3_cutSegment 112 = .ok (.aload_n 0, 1) := by decide +kernel
theorem dX3_cutSegment_113 : decode cX3_cutSegment 113 = .ok (.iload 6, 2) := by decide +kernel
theorem dX3_cutSegment_115 : decode cX3_cutSegment 115 = .ok (.iconst 4, 1) := by decide +kernel
theorem dX3_cutSegment_116 : decode cX3_cutSegment 116 = .ok (.iload 10, 2) := by decide +kernel
theorem dX3_cutSegment_118 : decode cX3_cutSegment 118 = .ok (.iadd, 1) := by decide +kernel
theorem dX3_cutSegment_119 : decode cX3_cutSegment 119 = .ok (.aload 5, 2) := by decide +kernel
theorem dX3_cutSegment_121 : decode cX3_cutSegment 121 = .ok (.aload 4, 2) := by decide +kernel
theorem dX3_cutSegment_123 : decode cX3_cutSegment 123 = .ok (.getfield 87, 3) := by decide +kernel
theorem dX3_cutSegment_126 : decode cX3_cutSegment 126 = .ok (.iload_n 3, 1) := by decide +kernel
theorem dX3_cutSegment_127 : decode cX3_cutSegment 127 = .ok (.i2l, 1) := by decide +kernel
theorem dX3_cutSegment_128 : decode cX3_cutSegment 128 = .ok (.lmul, 1) := by decide +kernel
theorem dX3_cutSegment_129 : decode cX3_cutSegment 129 = .ok (.aload 4, 2) := by decide +kernel
theorem dX3_cutSegment_131 : decode cX3_cutSegment 131 = .ok (.getfield 80, 3) := by decide +kernel
theorem dX3_cutSegment_134 : decode cX3_cutSegment 134 = .ok (.lsub, 1) := by decide +kernel
theorem dX3_cutSegment_135 : decode cX3_cutSegment 135 = .ok (.lload 8, 2) := by decide +kernel
theorem dX3_cutSegment_137 : decode cX3_cutSegment 137 = .ok (.invokevirtual 53, 3) := by decide +kernel
theorem dX3_cutSegment_140 : decode cX3_cutSegment 140 = .ok (.invokevirtual 42, 3) := by decide +kernel
theorem dX3_cutSegment_143 : decode cX3_cutSegment 143 = .ok (.aload_n 0, 1) := by decide +kernel
theorem dX3_cutSegment_144 : decode cX3_cutSegment 144 = .ok (.iload_n 1, 1) := by decide +kernel
theorem dX3_cutSegment_145 : decode cX3_cutSegment 145 = .ok (.iconst 4, 1) := by decide +kernel
theorem dX3_cutSegment_146 : decode cX3_cutSegment 146 = .ok (.iload 10, 2) := by decide +kernel
theorem dX3_cutSegment_148 : decode cX3_cutSegment 148 = .ok (.iadd, 1) := by decide +kernel
theorem dX3_cutSegment_149 : decode cX3_cutSegment 149 = .ok (.iload_n 2, 1) := by decide +kernel
theorem dX3_cutSegment_150 : decode cX3_cutSegment 150 = .ok (.iload_n 3, 1) := by decide +kernel
theorem dX3_cutSegment_151 : decode cX3_cutSegment 151 = .ok (.aload 5, 2) := by decide +kernel
theorem dX3_cutSegment_153 : decode cX3_cutSegment 153 = .ok (.invokevirtual 90, 3) := by decide +kernel
theorem dX3_cutSegment_156 : decode cX3_cutSegment 156 = .ok (.aload_n 0, 1) := by decide +kernel
theorem dX3_cutSegment_157 : decode cX3_cutSegment 157 = .ok (.iload 7, 2) := by decide +kernel
theorem dX3_cutSegment_159 : decode cX3_cutSegment 159 = .ok (.iconst 2, 1) := by decide +kernel
theorem dX3_cutSegment_160 : decode cX3_cutSegment 160 = .ok (.iload 10, 2) := by decide +kernel
theorem dX3_cutSegment_162 : decode cX3_cutSegment 162 = .ok (.iadd, 1) := by decide +kernel
theorem dX3_cutSegment_163 : decode cX3_cutSegment 163 = .ok (.iload_n 3, 1) := by decide +kernel
theorem dX3_cutSegment_164 : decode cX3_cutSegment 164 = .ok (.iload_n 2, 1) := by decide +kernel
theorem dX3_cutSegment_165 : decode cX3_cutSegment 165 = .ok (.isub, 1) := by decide +kernel
theorem dX3_cutSegment_166 : decode cX3_cutSegment 166 = .ok (.iload_n 3, 1) := by decide +kernel
theorem dX3_cutSegment_167 : decode cX3_cutSegment 167 = .ok (.aload 5, 2) := by decide +kernel
theorem dX3_cutSegment_169 : decode cX3_cutSegment 169 = .ok (.invokevirtual 90, 3) := by decide +kernel
theorem dX3_cutSegment_172 : decode cX3_cutSegment 172 = .ok (.iinc 10 1, 3) := by decide +kernel
theorem dX3_cutSegment_175 : decode cX3_cutSegment 175 = .ok (.goto (-135), 3) := by decide +kernel
theorem dX3_cutSegment_178 : decode cX3_cutSegment 178 = .ok (.aload_n 0, 1) := by decide +kernel
theorem dX3_cutSegment_179 : decode cX3_cutSegment 179 = .ok (.iload 6, 2) := by decide +kernel
theorem dX3_cutSegment_181 : decode cX3_cutSegment 181 = .ok (.iload_n 2, 1) := by decide +kernel
theorem dX3_cutSegment_182 : decode cX3_cutSegment 182 = .ok (.iload_n 3, 1) := by decide +kernel
theorem dX3_cutSegment_183 : decode cX3_cutSegment 183 = .ok (.iload_n 2, 1) := by decide +kernel
theorem dX3_cutSegment_184 : decode cX3_cutSegment 184 = .ok (.isub, 1) := by decide +kernel
theorem dX3_cutSegment_185 : decode cX3_cutSegment 185 = .ok (.invokevirtual 94, 3) := by decide +kernel
theorem dX3_cutSegment_188 : decode cX3_cutSegment 188 = .ok (.aload_n 0, 1) := by decide +kernel
theorem dX3_cutSegment_189 : decode cX3_cutSegment 189 = .ok (.iload_n 1, 1) := by decide +kernel
theorem dX3_cutSegment_190 : decode cX3_cutSegment 190 = .ok (.iload_n 3, 1) := by decide +kernel
theorem dX3_cutSegment_191 : decode cX3_cutSegment 191 = .ok (.iload_n 2, 1) := by decide +kernel
theorem dX3_cutSegment_192 : decode cX3_cutSegment 192 = .ok (.invokevirtual 97, 3) := by decide +kernel
theorem dX3_cutSegment_195 : decode cX3_cutSegment 195 = .ok (.aload_n 0, 1) := by decide +kernel
theorem dX3_cutSegment_196 : decode cX3_cutSegment 196 = .ok (.iload 7, 2) := by decide +kernel
theorem dX3_cutSegment_198 : decode cX3_cutSegment 198 = .ok (.iload_n 3, 1) := by decide +kernel
theorem dX3_cutSegment_199 : decode cX3_cutSegment 199 = .ok (.iload_n 2, 1) := by decide +kernel
theorem dX3_cutSegment_200 : decode cX3_cutSegment 200 = .ok (.isub, 1) := by decide +kernel
theorem dX3_cutSegment_201 : decode cX3_cutSegment 201 = .ok (.iload_n 3, 1) := by decide +kernel
theorem dX3_cutSegment_202 : decode cX3_cutSegment 202 = .ok (.invokevirtual 97, 3) := by decide +kernel
theorem dX3_cutSegment_205 : decode cX3_cutSegment 205 = .ok (.return_, 1) := by decide +kernel
theorem dX3_scaleHandle_0 : decode cX3_scaleHandle 0 = .ok (.aload_n 0, 1) := by decide +kernel
theorem dX3_scaleHandle_1 : decode cX3_scaleHandle 1 = .ok (.iload_n 1, 1) := by decide +kernel
theorem dX3_scaleHandle_2 : decode cX3_scaleHandle 2 = .ok (.iload_n 2, 1) := by decide +kernel
theorem dX3_scaleHandle_3 : decode cX3_scaleHandle 3 = .ok (.aload 5, 2) := by decide +kernel
theorem dX3_scaleHandle_5 : decode cX3_scaleHandle 5 = .ok (.aload_n 0, 1) := by decide +kernel
theorem dX3_scaleHandle_6 : decode cX3_scaleHandle 6 = .ok (.iload_n 1, 1) := by decide +kernel
theorem dX3_scaleHandle_7 : decode cX3_scaleHandle 7 = .ok (.iload_n 2, 1) := by decide +kernel
theorem dX3_scaleHandle_8 : decode cX3_scaleHandle 8 = .ok (.invokevirtual 33, 3) := by decide +kernel
theorem dX3_scaleHandle_11 : decode cX3_scaleHandle 11 = .ok (.i2l, 1) := by decide +kernel
theorem dX3_scaleHandle_12 : decode cX3_scaleHandle 12 = .ok (.iload_n 3, 1) := by decide +kernel
theorem dX3_scaleHandle_13 : decode cX3_scaleHandle 13 = .ok (.i2l, 1) := by decide +kernel
theorem dX3_scaleHandle_14 : decode cX3_scaleHandle 14 = .ok (.lmul, 1) := by decide +kernel
theorem dX3_scaleHandle_15 : decode cX3_scaleHandle 15 = .ok (.iload 4, 2) := by decide +kernel
theorem dX3_scaleHandle_17 : decode cX3_scaleHandle 17 = .ok (.i2l, 1) := by decide +kernel
theorem dX3_scaleHandle_18 : decode cX3_scaleHandle 18 = .ok (.invokevirtual 53, 3) := by decide +kernel
theorem dX3_scaleHandle_21 : decode cX3_scaleHandle 21 = .ok (.invokevirtual 42, 3) := by decide +kernel
theorem dX3_scaleHandle_24 : decode cX3_scaleHandle 24 = .ok (.return_, 1) := by decide +kernel
theorem dX3_scaleRatio_0 : decode cX3_scaleRatio 0 = .ok (.aload_n 0, 1) := by decide +kernel
theorem dX3_scaleRatio_1 : decode cX3_scaleRatio 1 = .ok (.iload_n 1, 1) := by decide +kernel
theorem dX3_scaleRatio_2 : decode cX3_scaleRatio 2 = .ok (.invokevirtual 37, 3) := by decide +kernel
theorem dX3_scaleRatio_5 : decode cX3_scaleRatio 5 = .ok (.ifCond .eq 26, 3) := by decide +kernel
theorem dX3_scaleRatio_8 : decode cX3_scaleRatio 8 = .ok (.aload_n 0, 1) := by decide +kernel
theorem dX3_scaleRatio_9 : decode cX3_scaleRatio 9 = .ok (.iload_n 1, 1) := by decide +kernel
theorem dX3_scaleRatio_10 : decode cX3_scaleRatio 10 = .ok (.aload_n 0, 1) := by decide +kernel
theorem dX3_scaleRatio_11 : decode cX3_scaleRatio 11 = .ok (.iload_n 1, 1) := by decide +kernel
theorem dX3_scaleRatio_12 : decode cX3_scaleRatio 12 = .ok (.bipush 6, 2) := by decide +kernel
theorem dX3_scaleRatio_14 : decode cX3_scaleRatio 14 = .ok (.invokevirtual 33, 3) := by decide +kernel
theorem dX3_scaleRatio_17 : decode cX3_scaleRatio 17 = .ok (.iload_n 2, 1) := by decide +kernel
theorem dX3_scaleRatio_18 : decode cX3_scaleRatio 18 = .ok (.imul, 1) := by decide +kernel
theorem dX3_scaleRatio_19 : decode cX3_scaleRatio 19 = .ok (.aload_n 0, 1) := by decide +kernel
theorem dX3_scaleRatio_20 : decode cX3_scaleRatio 20 = .ok (.iload_n 1, 1) := by decide +kernel
theorem dX3_scaleRatio_21 : decode cX3_scaleRatio 21 = .ok (.bipush 7, 2) := by decide +kernel
theorem dX3_scaleRatio_23 : decode cX3_scaleRatio 23 = .ok (.invokevirtual 33, 3) := by decide +kernel
theorem dX3_scaleRatio_26 : decode cX3_scaleRatio 26 = .ok (.iload_n 3, 1) := by decide +kernel
theorem dX3_scaleRatio_27 : decode cX3_scaleRatio 27 = .ok (.imul, 1) := by decide +kernel
theorem dX3_scaleRatio_28 : decode cX3_scaleRatio 28 = .ok (.invokevirtual 94, 3) := by decide +kernel
theorem dX3_scaleRatio_31 : decode cX3_scaleRatio 31 = .ok (.return_, 1) := by decide +kernel
theorem dX3_openAt_0 : decode cX3_openAt 0 = .ok (.iconst 0, 1) := by decide +kernel
theorem dX3_openAt_1 : decode cX3_openAt 1 = .ok (.istore_n 2, 1) := by decide +kernel
theorem dX3_openAt_2 : decode cX3_openAt 2 = .ok (.iload_n 2, 1) := by decide +kernel
theorem dX3_openAt_3 : decode cX3_openAt 3 = .ok (.iload_n 1, 1) := by decide +kernel
theorem dX3_openAt_4 : decode cX3_openAt 4 = .ok (.if_icmp .ge 20, 3) := by decide +kernel
theorem dX3_openAt_7 : decode cX3_openAt 7 = .ok (.aload_n 0, 1) := by decide +kernel
theorem dX3_openAt_8 : decode cX3_openAt 8 = .ok (.aload_n 0, 1) := by decide +kernel
theorem dX3_openAt_9 : decode cX3_openAt 9 = .ok (.iconst 0, 1) := by decide +kernel
theorem dX3_openAt_10 : decode cX3_openAt 10 = .ok (.invokevirtual 63, 3) := by decide +kernel
theorem dX3_openAt_13 : decode cX3_openAt 13 = .ok (.aload_n 0, 1) := by decide +kernel
theorem dX3_openAt_14 : decode cX3_openAt 14 = .ok (.iconst 0, 1) := by decide +kernel
theorem dX3_openAt_15 : decode cX3_openAt 15 = .ok (.invokevirtual 100, 3) := by decide +kernel
theorem dX3_openAt_18 : decode cX3_openAt 18 = .ok (.iinc 2 1, 3) := by decide +kernel
theorem dX3_openAt_21 : decode cX3_openAt 21 = .ok (.goto (-19), 3) := by decide +kernel
theorem dX3_openAt_24 : decode cX3_openAt 24 = .ok (.aload_n 0, 1) := by decide +kernel
theorem dX3_openAt_25 : decode cX3_openAt 25 = .ok (.aload_n 0, 1) := by decide +kernel
theorem dX3_openAt_26 : decode cX3_openAt 26 = .ok (.iconst 0, 1) := by decide +kernel
theorem dX3_openAt_27 : decode cX3_openAt 27 = .ok (.invokevirtual 63, 3) := by decide +kernel
theorem dX3_openAt_30 : decode cX3_openAt 30 = .ok (.aload_n 0, 1) := by decide +kernel
theorem dX3_openAt_31 : decode cX3_openAt 31 = .ok (.iconst 0, 1) := by decide +kernel
theorem dX3_openAt_32 : decode cX3_openAt 32 = .ok (.putfield 25, 3) := by decide +kernel
theorem dX3_openAt_35 : decode cX3_openAt 35 = .ok (.return_, 1) := by decide +kernel
theorem dX3_moveTail_0 : decode cX3_moveTail 0 = .ok (.iload_n 1, 1) := by decide +kernel
theorem dX3_moveTail_1 : decode cX3_moveTail 1 = .ok (.istore_n 3, 1) := by decide +kernel
theorem dX3_moveTail_2 : decode cX3_moveTail 2 = .ok (.iload_n 3, 1) := by decide +kernel
theorem dX3_moveTail_3 : decode cX3_moveTail 3 = .ok (.aload_n 0, 1) := by decide +kernel
theorem dX3_moveTail_4 : decode cX3_moveTail 4 = .ok (.getfield 21, 3) := by decide +kernel
theorem dX3_moveTail_7 : decode cX3_moveTail 7 = .ok (.if_icmp .ge 15, 3) := by decide +kernel
theorem dX3_moveTail_10 : decode cX3_moveTail 10 = .ok (.aload_n 2, 1) := by decide +kernel
theorem dX3_moveTail_11 : decode cX3_moveTail 11 = .ok (.aload_n 0, 1) := by decide +kernel
theorem dX3_moveTail_12 : decode cX3_moveTail 12 = .ok (.iload_n 3, 1) := by decide +kernel
theorem dX3_moveTail_13 : decode cX3_moveTail 13 = .ok (.invokevirtual 63, 3) := by decide +kernel
theorem dX3_moveTail_16 : decode cX3_moveTail 16 = .ok (.iinc 3 1, 3) := by decide +kernel
theorem dX3_moveTail_19 : decode cX3_moveTail 19 = .ok (.goto (-17), 3) := by decide +kernel
theorem dX3_moveTail_22 : decode cX3_moveTail 22 = .ok (.aload_n 0, 1) := by decide +kernel
theorem dX3_moveTail_23 : decode cX3_moveTail 23 = .ok (.iload_n 1, 1) := by decide +kernel
theorem dX3_moveTail_24 : decode cX3_moveTail 24 = .ok (.iconst 1, 1) := by decide +kernel
theorem dX3_moveTail_25 : decode cX3_moveTail 25 = .ok (.iadd, 1) := by decide +kernel
theorem dX3_moveTail_26 : decode cX3_moveTail 26 = .ok (.putfield 21, 3) := by decide +kernel
theorem dX3_moveTail_29 : decode cX3_moveTail 29 = .ok (.return_, 1) := by decide +kernel
theorem dX3_endsWhereStarts_0 : decode cX3_endsWhereStarts 0 = .ok (.aload_n 0, 1) := by decide +kernel
theorem dX3_endsWhereStarts_1 : decode cX3_endsWhereStarts 1 = .ok (.aload_n 0, 1) := by decide +kernel
theorem dX3_endsWhereStarts_2 : decode cX3_endsWhereStarts 2 = .ok (.getfield 21, 3) := by decide +kernel
theorem dX3_endsWhereStarts_5 : decode cX3_endsWhereStarts 5 = .ok (.iconst 1, 1) := by decide +kernel
theorem dX3_endsWhereStarts_6 : decode cX3_endsWhereStarts 6 = .ok (.isub, 1) := by decide +kernel
theorem dX3_endsWhereStarts_7 : decode cX3_endsWhereStarts 7 = .ok (.iconst 0, 1) := by decide +kernel
theorem dX3_endsWhereStarts_8 : decode cX3_endsWhereStarts 8 = .ok (.invokevirtual 33, 3) := by decide +kernel
theorem dX3_endsWhereStarts_11 : decode cX3_endsWhereStarts 11 = .ok (.aload_n 1, 1) := by decide +kernel
theorem dX3_endsWhereStarts_12 : decode cX3_endsWhereStarts 12 = .ok (.iconst 0, 1) := by decide +kernel
theorem dX3_endsWhereStarts_13 : decode cX3_endsWhereStarts 13 = .ok (.iconst 0, 1) := by decide +kernel
theorem dX3_endsWhereStarts_14 : decode cX3_endsWhereStarts 14 = .ok (.invokevirtual 33, 3) := by decide +kernel
theorem dX3_endsWhereStarts_17 : decode cX3_endsWhereStarts 17 = .ok (.if_icmp .ne 27, 3) := by decide +kernel
theorem dX3_endsWhereStarts_20 : decode cX3_endsWhereStarts 20 = .ok (.aload_n 0, 1) := by decide +kernel
theorem dX3_endsWhereStarts_21 : decode cX3_endsWhereStarts 21 = .ok (.aload_n 0, 1) := by decide +kernel
theorem dX3_endsWhereStarts_22 : decode cX3_endsWhereStarts 22 = .ok (.getfield 21, 3) := by decide +kernel
theorem dX3_endsWhereStarts_25 : decode cX3_endsWhereStarts 25 = .ok (.iconst 1, 1) := by decide +kernel
theorem dX3_endsWhereStarts_26 : decode cX3_endsWhereStarts 26 = .ok (.isub, 1) := by decide +kernel
theorem dX3_endsWhereStarts_27 : decode cX3_endsWhereStarts 27 = .ok (.iconst 1, 1) := by decide +kernel
theorem dX3_endsWhereStarts_28 : decode cX3_endsWhereStarts 28 = .ok (.invokevirtual 33, 3) := by decide +kernel
theorem dX3_endsWhereStarts_31 : decode cX3_endsWhereStarts 31 = .ok (.aload_n 1, 1) := by decide +kernel
theorem dX3_endsWhereStarts_32 : decode cX3_endsWhereStarts 32 = .ok (.iconst 0, 1) := by decide +kernel
theorem dX3_endsWhereStarts_33 : decode cX3_endsWhereStarts 33 = .ok (.iconst 1, 1) := by decide +kernel
theorem dX3_endsWhereStarts_34 : decode cX3_endsWhereStarts 34 = .ok (.invokevirtual 33, 3) := by decide +kernel
theorem dX3_endsWhereStarts_37 : decode cX3_endsWhereStarts 37 = .ok (.if_icmp .ne 7, 3) := by decide +kernel
theorem dX3_endsWhereStarts_40 : decode cX3_endsWhereStarts 40 = .ok (.iconst 1, 1) := by decide +kernel
theorem dX3_endsWhereStarts_41 : decode cX3_endsWhereStarts 41 = .ok (.goto 4, 3) := by decide +kernel
theorem dX3_endsWhereStarts_44 : decode cX3_endsWhereStarts 44 = .ok (.iconst 0, 1) := by decide +kernel
theorem dX3_endsWhereStarts_45 : decode cX3_endsWhereStarts 45 = .ok (.ireturn, 1) := by decide +kernel
theorem dX3_mergeStart_0 : decode cX3_mergeStart 0 = .ok (.aload_n 1, 1) := by decide +kernel
theorem dX3_mergeStart_1 : decode cX3_mergeStart 1 = .ok (.getfield 21, 3) := by decide +kernel
theorem dX3_mergeStart_4 : decode cX3_mergeStart 4 = .ok (.iconst 1, 1) := by decide +kernel
theorem dX3_mergeStart_5 : decode cX3_mergeStart 5 = .ok (.isub, 1) := by decide +kernel
theorem dX3_mergeStart_6 : decode cX3_mergeStart 6 = .ok (.istore_n 2, 1) := by decide +kernel
theorem dX3_mergeStart_7 : decode cX3_mergeStart 7 = .ok (.aload_n 0, 1) := by decide +kernel
theorem dX3_mergeStart_8 : decode cX3_mergeStart 8 = .ok (.iconst 0, 1) := by decide +kernel
theorem dX3_mergeStart_9 : decode cX3_mergeStart 9 = .ok (.iconst 2, 1) := by decide +kernel
theorem dX3_mergeStart_10 : decode cX3_mergeStart 10 = .ok (.aload_n 1, 1) := by decide +kernel
theorem dX3_mergeStart_11 : decode cX3_mergeStart 11 = .ok (.iload_n 2, 1) := by decide +kernel
theorem dX3_mergeStart_12 : decode cX3_mergeStart 12 = .ok (.iconst 2, 1) := by decide +kernel
theorem dX3_mergeStart_13 : decode cX3_mergeStart 13 = .ok (.invokevirtual 33, 3) := by decide +kernel
theorem dX3_mergeStart_16 : decode cX3_mergeStart 16 = .ok (.invokevirtual 42, 3) := by decide +kernel
theorem dX3_mergeStart_19 : decode cX3_mergeStart 19 = .ok (.aload_n 0, 1) := by decide +kernel
theorem dX3_mergeStart_20 : decode cX3_mergeStart 20 = .ok (.iconst 0, 1) := by decide +kernel
theorem dX3_mergeStart_21 : decode cX3_mergeStart 21 = .ok (.iconst 3, 1) := by decide +kernel
theorem dX3_mergeStart_22 : decode cX3_mergeStart 22 = .ok (.aload_n 1, 1) := by decide +kernel
theorem dX3_mergeStart_23 : decode cX3_mergeStart 23 = .ok (.iload_n 2, 1) := by decide +kernel
theorem dX3_mergeStart_24 : decode cX3_mergeStart 24 = .ok (.iconst 3, 1) := by decide +kernel
theorem dX3_mergeStart_25 : decode cX3_mergeStart 25 = .ok (.invokevirtual 33, 3) := by decide +kernel
theorem dX3_mergeStart_28 : decode cX3_mergeStart 28 = .ok (.invokevirtual 42, 3) := by decide +kernel
theorem dX3_mergeStart_31 : decode cX3_mergeStart 31 = .ok (.aload_n 0, 1) := by decide +kernel
theorem dX3_mergeStart_32 : decode cX3_mergeStart 32 = .ok (.iconst 0, 1) := by decide +kernel
theorem dX3_mergeStart_33 : decode cX3_mergeStart 33 = .ok (.bipush 6, 2) := by decide +kernel
theorem dX3_mergeStart_35 : decode cX3_mergeStart 35 = .ok (.invokevirtual 33, 3) := by decide +kernel
theorem dX3_mergeStart_38 : decode cX3_mergeStart 38 = .ok (.aload_n 1, 1) := by decide +kernel
theorem dX3_mergeStart_39 : decode cX3_mergeStart 39 = .ok (.iload_n 2, 1) := by decide +kernel
theorem dX3_mergeStart_40 : decode cX3_mergeStart 40 = .ok (.bipush 6, 2) := by decide +kernel
theorem dX3_mergeStart_42 : decode cX3_mergeStart 42 = .ok (.invokevirtual 33, 3) := by decide +kernel
theorem dX3_mergeStart_45 : decode cX3_mergeStart 45 = .ok (.if_icmp .ne 24, 3) := by decide +kernel
theorem dX3_mergeStart_48 : decode cX3_mergeStart 48 = .ok (.aload_n 0, 1) := by decide +kernel
theorem dX3_mergeStart_49 : decode cX3_mergeStart 49 = .ok (.iconst 0, 1) := by decide +kernel
theorem dX3_mergeStart_50 : decode cX3_mergeStart 50 = .ok (.bipush 7, 2) := by decide +kernel
theorem dX3_mergeStart_52 : decode cX3_mergeStart 52 = .ok (.invokevirtual 33, 3) := by decide +kernel
theorem dX3_mergeStart_55 : decode cX3_mergeStart 55 = .ok (.aload_n 1, 1) := by decide +kernel
theorem dX3_mergeStart_56 : decode cX3_mergeStart 56 = .ok (.iload_n 2, 1) := by decide +kernel
theorem dX3_mergeStart_57 : decode cX3_mergeStart 57 = .ok (.bipush 7, 2) := by decide +kernel
theorem dX3_mergeStart_59 : decode cX3_mergeStart 59 = .ok (.invokevirtual 33, 3) := by decide +kernel
theorem dX3_mergeStart_62 : decode cX3_mergeStart 62 = .ok (.if_icmp .ne 7, 3) := by decide +kernel
theorem dX3_mergeStart_65 : decode cX3_mergeStart 65 = .ok (.iconst 1, 1) := by decide +kernel
theorem dX3_mergeStart_66 : decode cX3_mergeStart 66 = .ok (.goto 4, 3) := by decide +kernel
theorem dX3_mergeStart_69 : decode cX3_mergeStart 69 = .ok (.iconst 0, 1) := by decide +kernel
theorem dX3_mergeStart_70 : decode cX3_mergeStart 70 = .ok (.istore_n 3, 1) := by decide +kernel
theorem dX3_mergeStart_71 : decode cX3_mergeStart 71 = .ok (.iload_n 3, 1) := by decide +kernel
theorem dX3_mergeStart_72 : decode cX3_mergeStart 72 = .ok (.ifCond .eq 11, 3) := by decide +kernel
theorem dX3_mergeStart_75 : decode cX3_mergeStart 75 = .ok (.aload_n 0, 1) := by decide +kernel
theorem dX3_mergeStart_76 : decode cX3_mergeStart 76 = .ok (.iconst 0, 1) := by decide +kernel
theorem dX3_mergeStart_77 : decode cX3_mergeStart 77 = .ok (.invokevirtual 103, 3) := by decide +kernel
theorem dX3_mergeStart_80 : decode cX3_mergeStart 80 = .ok (.ifCond .ne 8, 3) := by decide +kernel
theorem dX3_mergeStart_83 : decode cX3_mergeStart 83 = .ok (.aload_n 0, 1) := by decide +kernel
theorem dX3_mergeStart_84 : decode cX3_mergeStart 84 = .ok (.iconst 0, 1) := by decide +kernel
theorem dX3_mergeStart_85 : decode cX3_mergeStart 85 = .ok (.invokevirtual 49, 3) := by decide +kernel
theorem dX3_mergeStart_88 : decode cX3_mergeStart 88 = .ok (.aload_n 1, 1) := by decide +kernel
theorem dX3_mergeStart_89 : decode cX3_mergeStart 89 = .ok (.iload_n 2, 1) := by decide +kernel
theorem dX3_mergeStart_90 : decode cX3_mergeStart 90 = .ok (.invokevirtual 100, 3) := by decide +kernel
theorem dX3_mergeStart_93 : decode cX3_mergeStart 93 = .ok (.return_, 1) := by decide +kernel
theorem dX3_turnRound_0 : decode cX3_turnRound 0 = .ok (.iconst 0, 1) := by decide +kernel
theorem dX3_turnRound_1 : decode cX3_turnRound 1 = .ok (.istore_n 1, 1) := by decide +kernel
theorem dX3_turnRound_2 : decode cX3_turnRound 2 = .ok (.iload_n 1, 1) := by decide +kernel
theorem dX3_turnRound_3 : decode cX3_turnRound 3 = .ok (.aload_n 0, 1) := by decide +kernel
theorem dX3_turnRound_4 : decode cX3_turnRound 4 = .ok (.getfield 21, 3) := by decide +kernel
theorem dX3_turnRound_7 : decode cX3_turnRound 7 = .ok (.iconst 1, 1) := by decide +kernel
theorem dX3_turnRound_8 : decode cX3_turnRound 8 = .ok (.isub, 1) := by decide +kernel
theorem dX3_turnRound_9 : decode cX3_turnRound 9 = .ok (.iload_n 1, 1) := by decide +kernel
theorem dX3_turnRound_10 : decode cX3_turnRound 10 = .ok (.isub, 1) := by decide +kernel
theorem dX3_turnRound_11 : decode cX3_turnRound 11 = .ok (.if_icmp .ge 38, 3) := by decide +kernel
theorem dX3_turnRound_14 : decode cX3_turnRound 14 = .ok (.iconst 0, 1) := by decide +kernel
theorem dX3_turnRound_15 : decode cX3_turnRound 15 = .ok (.istore_n 2, 1) := by decide +kernel
theorem dX3_turnRound_16 : decode cX3_turnRound 16 = .ok (.iload_n 2, 1) := by decide +kernel
theorem dX3_turnRound_17 : decode cX3_turnRound 17 = .ok (.bipush 8, 2) := by decide +kernel
theorem dX3_turnRound_19 : decode cX3_turnRound 19 = .ok (.if_icmp .ge 24, 3) := by decide +kernel
theorem dX3_turnRound_22 : decode cX3_turnRound 22 = .ok (.aload_n 0, 1) := by decide +kernel
theorem dX3_turnRound_23 : decode cX3_turnRound 23 = .ok (.iload_n 1, 1) := by decide +kernel
theorem dX3_turnRound_24 : decode cX3_turnRound 24 = .ok (.iload_n 2, 1) := by decide +kernel
theorem dX3_turnRound_25 : decode cX3_turnRound 25 = .ok (.aload_n 0, 1) := by decide +kernel
theorem dX3_turnRound_26 : decode cX3_turnRound 26 = .ok (.getfield 21, 3) := by decide +kernel
theorem dX3_turnRound_29 : decode cX3_turnRound 29 = .ok (.iconst 1, 1) := by decide +kernel
theorem dX3_turnRound_30 : decode cX3_turnRound 30 = .ok (.isub, 1) := by decide +kernel
theorem dX3_turnRound_31 : decode cX3_turnRound 31 = .ok (.iload_n 1, 1) := by decide +kernel
theorem dX3_turnRound_32 : decode cX3_turnRound 32 = .ok (.isub, 1) := by decide +kernel
theorem dX3_turnRound_33 : decode cX3_turnRound 33 = .ok (.iload_n 2, 1) := by decide +kernel
theorem dX3_turnRound_34 : decode cX3_turnRound 34 = .ok (.invokevirtual 106, 3) := by decide +kernel
theorem dX3_turnRound_37 : decode cX3_turnRound 37 = .ok (.iinc 2 1, 3) := by decide +kernel
theorem dX3_turnRound_40 : decode cX3_turnRound 40 = .ok (.goto (-24), 3) := by decide +kernel
theorem dX3_turnRound_43 : decode cX3_turnRound 43 = .ok (.iinc 1 1, 3) := by decide +kernel
theorem dX3_turnRound_46 : decode cX3_turnRound 46 = .ok (.goto (-44), 3) := by decide +kernel
theorem dX3_turnRound_49 : decode cX3_turnRound 49 = .ok (.iconst 0, 1) := by decide +kernel
theorem dX3_turnRound_50 : decode cX3_turnRound 50 = .ok (.istore_n 1, 1) := by decide +kernel
theorem dX3_turnRound_51 : decode cX3_turnRound 51 = .ok (.iload_n 1, 1) := by decide +kernel
theorem dX3_turnRound_52 : decode cX3_turnRound 52 = .ok (.aload_n 0, 1) := by decide +kernel
theorem dX3_turnRound_53 : decode cX3_turnRound 53 = .ok (.getfield 21, 3) := by decide +kernel
theorem dX3_turnRound_56 : decode cX3_turnRound 56 = .ok (.if_icmp .ge 35, 3) := by decide +kernel
theorem dX3_turnRound_59 : decode cX3_turnRound 59 = .ok (.aload_n 0, 1) := by decide +kernel
theorem dX3_turnRound_60 : decode cX3_turnRound 60 = .ok (.iload_n 1, 1) := by decide +kernel
theorem dX3_turnRound_61 : decode cX3_turnRound 61 = .ok (.iconst 2, 1) := by decide +kernel
theorem dX3_turnRound_62 : decode cX3_turnRound 62 = .ok (.iload_n 1, 1) := by decide +kernel
theorem dX3_turnRound_63 : decode cX3_turnRound 63 = .ok (.iconst 4, 1) := by decide +kernel
theorem dX3_turnRound_64 : decode cX3_turnRound 64 = .ok (.invokevirtual 106, 3) := by decide +kernel
theorem dX3_turnRound_67 : decode cX3_turnRound 67 = .ok (.aload_n 0, 1) := by decide +kernel
theorem dX3_turnRound_68 : decode cX3_turnRound 68 = .ok (.iload_n 1, 1) := by decide +kernel
theorem dX3_turnRound_69 : decode cX3_turnRound 69 = .ok (.iconst 3, 1) := by decide +kernel
theorem dX3_turnRound_70 : decode cX3_turnRound 70 = .ok (.iload_n 1, 1) := by decide +kernel
theorem dX3_turnRound_71 : decode cX3_turnRound 71 = .ok (.iconst 5, 1) := by decide +kernel
theorem dX3_turnRound_72 : decode cX3_turnRound 72 = .ok (.invokevirtual 106, 3) := by decide +kernel
theorem dX3_turnRound_75 : decode cX3_turnRound 75 = .ok (.aload_n 0, 1) := by decide +kernel
theorem dX3_turnRound_76 : decode cX3_turnRound 76 = .ok (.iload_n 1, 1) := by decide +kernel
theorem dX3_turnRound_77 : decode cX3_turnRound 77 = .ok (.bipush 6, 2) := by decide +kernel
theorem dX3_turnRound_79 : decode cX3_turnRound 79 = .ok (.iload_n 1, 1) := by decide +kernel
theorem dX3_turnRound_80 : decode cX3_turnRound 80 = .ok (.bipush 7, 2) := by decide +kernel
theorem dX3_turnRound_82 : decode cX3_turnRound 82 = .ok (.invokevirtual 106, 3) := by decide +kernel
theorem dX3_turnRound_85 : decode cX3_turnRound 85 = .ok (.iinc 1 1, 3) := by decide +kernel
theorem dX3_turnRound_88 : decode cX3_turnRound 88 = .ok (.goto (-37), 3) := by decide +kernel
theorem dX3_turnRound_91 : decode cX3_turnRound 91 = .ok (.return_, 1) := by decide +kernel
theorem dX3_exchange_0 : decode cX3_exchange 0 = .ok (.aload_n 0, 1) := by decide +kernel
theorem dX3_exchange_1 : decode cX3_exchange 1 = .ok (.iload_n 1, 1) := by decide +kernel
theorem dX3_exchange_2 : decode cX3_exchange 2 = .ok (.iload_n 2, 1) := by decide +kernel
theorem dX3_exchange_3 : decode cX3_exchange 3 = .ok (.invokevirtual 33, 3) := by decide +kernel
theorem dX3_exchange_6 : decode cX3_exchange 6 = .ok (.istore 5, 2) := by decide +kernel
theorem dX3_exchange_8 : decode cX3_exchange 8 = .ok (.aload_n 0, 1) := by decide +kernel
theorem dX3_exchange_9 : decode cX3_exchange 9 = .ok (.iload_n 1, 1) := by decide +kernel
theorem dX3_exchange_10 : decode cX3_exchange 10 = .ok (.iload_n 2, 1) := by decide +kernel
theorem dX3_exchange_11 : decode cX3_exchange 11 = .ok (.aload_n 0, 1) := by decide +kernel
theorem dX3_exchange_12 : decode cX3_exchange 12 = .ok (.iload_n 3, 1) := by decide +kernel
theorem dX3_exchange_13 : decode cX3_exchange 13 = .ok (.iload 4, 2) := by decide +kernel
theorem dX3_exchange_15 : decode cX3_exchange 15 = .ok (.invokevirtual 33, 3) := by decide +kernel
theorem dX3_exchange_18 : decode cX3_exchange 18 = .ok (.invokevirtual 42, 3) := by decide +kernel
theorem dX3_exchange_21 : decode cX3_exchange 21 = .ok (.aload_n 0, 1) := by decide +kernel
theorem dX3_exchange_22 : decode cX3_exchange 22 = .ok (.iload_n 3, 1) := by decide +kernel
theorem dX3_exchange_23 : decode cX3_exchange 23 = .ok (.iload 4, 2) := by decide +kernel
theorem dX3_exchange_25 : decode cX3_exchange 25 = .ok (.iload 5, 2) := by decide +kernel
theorem dX3_exchange_27 : decode cX3_exchange 27 = .ok (.invokevirtual 42, 3) := by decide +kernel
theorem dX3_exchange_30 : decode cX3_exchange 30 = .ok (.return_, 1) := by decide +kernel
theorem dX3_mapNode_0 : decode cX3_mapNode 0 = .ok (.iconst 0, 1) := by decide +kernel
theorem dX3_mapNode_1 : decode cX3_mapNode 1 = .ok (.istore 12, 2) := by decide +kernel
theorem dX3_mapNode_3 : decode cX3_mapNode 3 = .ok (.iload 12, 2) := by decide +kernel
theorem dX3_mapNode_5 : decode cX3_mapNode 5 = .ok (.bipush 6, 2) := by decide +kernel
theorem dX3_mapNode_7 : decode cX3_mapNode 7 = .ok (.if_icmp .ge 86, 3) := by decide +kernel
theorem dX3_mapNode_10 : decode cX3_mapNode 10 = .ok (.aload_n 0, 1) := by decide +kernel
theorem dX3_mapNode_11 : decode cX3_mapNode 11 = .ok (.iload_n 1, 1) := by decide +kernel
theorem dX3_mapNode_12 : decode cX3_mapNode 12 = .ok (.iload 12, 2) := by decide +kernel
theorem dX3_mapNode_14 : decode cX3_mapNode 14 = .ok (.invokevirtual 33, 3) := by decide +kernel
theorem dX3_mapNode_17 : decode cX3_mapNode 17 = .ok (.istore 13, 2) := by decide +kernel
theorem dX3_mapNode_19 : decode cX3_mapNode 19 = .ok (.aload_n 0, 1) := by decide +kernel
theorem dX3_mapNode_20 : decode cX3_mapNode 20 = .ok (.iload_n 1, 1) := by decide +kernel
theorem dX3_mapNode_21 : decode cX3_mapNode 21 = .ok (.iload 12, 2) := by decide +kernel
theorem dX3_mapNode_23 : decode cX3_mapNode 23 = .ok (.iconst 1, 1) := by decide +kernel
theorem dX3_mapNode_24 : decode cX3_mapNode 24 = .ok (.iadd, 1) := by decide +kernel
theorem dX3_mapNode_25 : decode cX3_mapNode 25 = .ok (.invokevirtual 33, 3) := by decide +kernel
theorem dX3_mapNode_28 : decode cX3_mapNode 28 = .ok (.istore 14, 2) := by decide +kernel
theorem dX3_mapNode_30 : decode cX3_mapNode 30 = .ok (.aload_n 0, 1) := by decide +kernel
theorem dX3_mapNode_31 : decode cX3_mapNode 31 = .ok (.iload_n 1, 1) := by decide +kernel
theorem dX3_mapNode_32 : decode cX3_mapNode 32 = .ok (.iload 12, 2) := by decide +kernel
theorem dX3_mapNode_34 : decode cX3_mapNode 34 = .ok (.aload 11, 2) := by decide +kernel
theorem dX3_mapNode_36 : decode cX3_mapNode 36 = .ok (.lload_n 2, 1) := by decide +kernel
theorem dX3_mapNode_37 : decode cX3_mapNode 37 = .ok (.iload 13, 2) := by decide +kernel
theorem dX3_mapNode_39 : decode cX3_mapNode 39 = .ok (.i2l, 1) := by decide +kernel
theorem dX3_mapNode_40 : decode cX3_mapNode 40 = .ok (.lmul, 1) := by decide +kernel
theorem dX3_mapNode_41 : decode cX3_mapNode 41 = .ok (.lload 4, 2) := by decide +kernel
theorem dX3_mapNode_43 : decode cX3_mapNode 43 = .ok (.iload 14, 2) := by decide +kernel
theorem dX3_mapNode_45 : decode cX3_mapNode 45 = .ok (.i2l, 1) := by decide +kernel
theorem dX3_mapNode_46 : decode cX3_mapNode 46 = .ok (.lmul, 1) := by decide +kernel
theorem dX3_mapNode_47 : decode cX3_mapNode 47 = .ok (.ladd, 1) := by decide +kernel
theorem dX3_mapNode_48 : decode cX3_mapNode 48 = .ok (.iload 10, 2) := by decide +kernel
theorem dX3_mapNode_50 : decode cX3_mapNode 50 = .ok (.i2l, 1) := by decide +kernel
theorem dX3_mapNode_51 : decode cX3_mapNode 51 = .ok (.invokevirtual 53, 3) := by decide +kernel
theorem dX3_mapNode_54 : decode cX3_mapNode 54 = .ok (.invokevirtual 42, 3) := by decide +kernel
theorem dX3_mapNode_57 : decode cX3_mapNode 57 = .ok (.aload_n 0, 1) := by decide +kernel
theorem dX3_mapNode_58 : decode cX3_mapNode 58 = .ok (.iload_n 1, 1) := by decide +kernel
theorem dX3_mapNode_59 : decode cX3_mapNode 59 = .ok (.iload 12, 2) := by decide +kernel
theorem dX3_mapNode_61 : decode cX3_mapNode 61 = .ok (.iconst 1, 1) := by decide +kernel
theorem dX3_mapNode_62 : decode cX3_mapNode 62 = .ok (.iadd, 1) := by decide +kernel
theorem dX3_mapNode_63 : decode cX3_mapNode 63 = .ok (.aload 11, 2) := by decide +kernel
theorem dX3_mapNode_65 : decode cX3_mapNode 65 = .ok (.lload 6, 2) := by decide +kernel
theorem dX3_mapNode_67 : decode cX3_mapNode 67 = .ok (.iload 13, 2) := by decide +kernel
theorem dX3_mapNode_69 : decode cX3_mapNode 69 = .ok (.i2l, 1) := by decide +kernel
theorem dX3_mapNode_70 : decode cX3_mapNode 70 = .ok (.lmul, 1) := by decide +kernel
theorem dX3_mapNode_71 : decode cX3_mapNode 71 = .ok (.lload 8, 2) := by decide +kernel
theorem dX3_mapNode_73 : decode cX3_mapNode 73 = .ok (.iload 14, 2) := by decide +kernel
theorem dX3_mapNode_75 : decode cX3_mapNode 75 = .ok (.i2l, 1) := by decide +kernel
theorem dX3_mapNode_76 : decode cX3_mapNode 76 = .ok (.lmul, 1) := by decide +kernel
theorem dX3_mapNode_77 : decode cX3_mapNode 77 = .ok (.ladd, 1) := by decide +kernel
theorem dX3_mapNode_78 : decode cX3_mapNode 78 = .ok (.iload 10, 2) := by decide +kernel
theorem dX3_mapNode_80 : decode cX3_mapNode 80 = .ok (.i2l, 1) := by decide +kernel
theorem dX3_mapNode_81 : decode cX3_mapNode 81 = .ok (.invokevirtual 53, 3) := by decide +kernel
theorem dX3_mapNode_84 : decode cX3_mapNode 84 = .ok (.invokevirtual 42, 3) := by decide +kernel
theorem dX3_mapNode_87 : decode cX3_mapNode 87 = .ok (.iinc 12 2, 3) := by decide +kernel
theorem dX3_mapNode_90 : decode cX3_mapNode 90 = .ok (.goto (-87), 3) := by decide +kernel
theorem dX3_mapNode_93 : decode cX3_mapNode 93 = .ok (.return_, 1) := by decide +kernel
theorem dX3_control_0 : decode cX3_control 0 = .ok (.iload_n 2, 1) := by decide +kernel
theorem dX3_control_1 : decode cX3_control 1 = .ok (.tableswitch 80 0 2 #[27, 36, 54], 27) := by decide +kernel
theorem dX3_control_28 : decode cX3_control 28 = .ok (.aload_n 0, 1) := by decide +kernel
theorem dX3_control_29 : decode cX3_control 29 = .ok (.iload_n 1, 1) := by decide +kernel
theorem dX3_control_30 : decode cX3_control 30 = .ok (.iconst 0, 1) := by decide +kernel
theorem dX3_control_31 : decode cX3_control 31 = .ok (.iload_n 3, 1) := by decide +kernel
theorem dX3_control_32 : decode cX3_control 32 = .ok (.iadd, 1) := by decide +kernel
theorem dX3_control_33 : decode cX3_control 33 = .ok (.invokevirtual 33, 3) := by decide +kernel
theorem dX3_control_36 : decode cX3_control 36 = .ok (.ireturn, 1) := by decide +kernel
theorem dX3_control_37 : decode cX3_control 37 = .ok (.aload_n 0, 1) := by decide +kernel
theorem dX3_control_38 : decode cX3_control 38 = .ok (.iload_n 1, 1) := by decide +kernel
theorem dX3_control_39 : decode cX3_control 39 = .ok (.iconst 0, 1) := by decide +kernel
theorem dX3_control_40 : decode cX3_control 40 = .ok (.iload_n 3, 1) := by decide +kernel
theorem dX3_control_41 : decode cX3_control 41 = .ok (.iadd, 1) := by decide +kernel
theorem dX3_control_42 : decode cX3_control 42 = .ok (.invokevirtual 33, 3) := by decide +kernel
theorem dX3_control_45 : decode cX3_control 45 = .ok (.aload_n 0, 1) := by decide +kernel
theorem dX3_control_46 : decode cX3_control 46 = .ok (.iload_n 1, 1) := by decide +kernel
theorem dX3_control_47 : decode cX3_control 47 = .ok (.iconst 4, 1) := by decide +kernel
theorem dX3_control_48 : decode cX3_control 48 = .ok (.iload_n 3, 1) := by decide +kernel
theorem dX3_control_49 : decode cX3_control 49 = .ok (.iadd, 1) := by decide +kernel
theorem dX3_control_50 : decode cX3_control 50 = .ok (.invokevirtual 33, 3) := by decide +kernel
theorem dX3_control_53 : decode cX3_control 53 = .ok (.iadd, 1) := by decide +kernel
theorem dX3_control_54 : decode cX3_control 54 = .ok (.ireturn, 1) := by decide +kernel
theorem dX3_control_55 : decode cX3_control 55 = .ok (.aload_n 0, 1) := by decide +kernel
theorem dX3_control_56 : decode cX3_control 56 = .ok (.aload_n 0, 1) := by decide +kernel
theorem dX3_control_57 : decode cX3_control 57 = .ok (.iload_n 1, 1) := by decide +kernel
theorem dX3_control_58 : decode cX3_control 58 = .ok (.invokevirtual 67, 3) := by decide +kernel
theorem dX3_control_61 : decode cX3_control 61 = .ok (.iconst 0, 1) := by decide +kernel
theorem dX3_control_62 : decode cX3_control 62 = .ok (.iload_n 3, 1) := by decide +kernel
theorem dX3_control_63 : decode cX3_control 63 = .ok (.iadd, 1) := by decide +kernel
theorem dX3_control_64 : decode cX3_control 64 = .ok (.invokevirtual 33, 3) := by decide +kernel
theorem dX3_control_67 : decode cX3_control 67 = .ok (.aload_n 0, 1) := by decide +kernel
theorem dX3_control_68 : decode cX3_control 68 = .ok (.aload_n 0, 1) := by decide +kernel
theorem dX3_control_69 : decode cX3_control 69 = .ok (.iload_n 1, 1) := by decide +kernel
theorem dX3_control_70 : decode cX3_control 70 = .ok (.invokevirtual 67, 3) := by decide +kernel
theorem dX3_control_73 : decode cX3_control 73 = .ok (.iconst 2, 1) := by decide +kernel
theorem dX3_control_74 : decode cX3_control 74 = .ok (.iload_n 3, 1) := by decide +kernel
theorem dX3_control_75 : decode cX3_control 75 = .ok (.iadd, 1) := by decide +kernel
theorem dX3_control_76 : decode cX3_control 76 = .ok (.invokevirtual 33, 3) := by decide +kernel
theorem dX3_control_79 : decode cX3_control 79 = .ok (.iadd, 1) := by decide +kernel
theorem dX3_control_80 : decode cX3_control 80 = .ok (.ireturn, 1) := by decide +kernel
theorem dX3_control_81 : decode cX3_control 81 = .ok (.aload_n 0, 1) := by decide +kernel
theorem dX3_control_82 : decode cX3_control 82 = .ok (.aload_n 0, 1) := by decide +kernel
theorem dX3_control_83 : decode cX3_control 83 = .ok (.iload_n 1, 1) := by decide +kernel
theorem dX3_control_84 : decode cX3_control 84 = .ok (.invokevirtual 67, 3) := by decide +kernel
theorem dX3_control_87 : decode cX3_control 87 = .ok (.iconst 0, 1) := by decide +kernel
theorem dX3_control_88 : decode cX3_control 88 = .ok (.iload_n 3, 1) := by decide +kernel
theorem dX3_control_89 : decode cX3_control 89 = .ok (.iadd, 1) := by decide +kernel
theorem dX3_control_90 : decode cX3_control 90 = .ok (.invokevirtual 33, 3) := by decide +kernel
theorem dX3_control_93 : decode cX3_control 93 = .ok (.ireturn, 1) := by decide +kernel
theorem dX3_isStraight_0 : decode cX3_isStraight 0 = .ok (.aload_n 0, 1) := by decide +kernel
theorem dX3_isStraight_1 : decode cX3_isStraight 1 = .ok (.iload_n 1, 1) := by decide +kernel
theorem dX3_isStraight_2 : decode cX3_isStraight 2 = .ok (.iconst 4, 1) := by decide +kernel
theorem dX3_isStraight_3 : decode cX3_isStraight 3 = .ok (.invokevirtual 110, 3) := by decide +kernel
theorem dX3_isStraight_6 : decode cX3_isStraight 6 = .ok (.ifCond .eq 20, 3) := by decide +kernel
theorem dX3_isStraight_9 : decode cX3_isStraight 9 = .ok (.aload_n 0, 1) := by decide +kernel
theorem dX3_isStraight_10 : decode cX3_isStraight 10 = .ok (.aload_n 0, 1) := by decide +kernel
theorem dX3_isStraight_11 : decode cX3_isStraight 11 = .ok (.iload_n 1, 1) := by decide +kernel
theorem dX3_isStraight_12 : decode cX3_isStraight 12 = .ok (.invokevirtual 67, 3) := by decide +kernel
theorem dX3_isStraight_15 : decode cX3_isStraight 15 = .ok (.iconst 2, 1) := by decide +kernel
theorem dX3_isStraight_16 : decode cX3_isStraight 16 = .ok (.invokevirtual 110, 3) := by decide +kernel
theorem dX3_isStraight_19 : decode cX3_isStraight 19 = .ok (.ifCond .eq 7, 3) := by decide +kernel
theorem dX3_isStraight_22 : decode cX3_isStraight 22 = .ok (.iconst 1, 1) := by decide +kernel
theorem dX3_isStraight_23 : decode cX3_isStraight 23 = .ok (.goto 4, 3) := by decide +kernel
theorem dX3_isStraight_26 : decode cX3_isStraight 26 = .ok (.iconst 0, 1) := by decide +kernel
theorem dX3_isStraight_27 : decode cX3_isStraight 27 = .ok (.ireturn, 1) := by decide +kernel
theorem dX3_sixtyAreas_0 : decode cX3_sixtyAreas 0 = .ok (.lconst 0, 1) := by decide +kernel
theorem dX3_sixtyAreas_1 : decode cX3_sixtyAreas 1 = .ok (.lstore_n 1, 1) := by decide +kernel
theorem dX3_sixtyAreas_2 : decode cX3_sixtyAreas 2 = .ok (.iconst 0, 1) := by decide +kernel
theorem dX3_sixtyAreas_3 : decode cX3_sixtyAreas 3 = .ok (.istore_n 3, 1) := by decide +kernel
theorem dX3_sixtyAreas_4 : decode cX3_sixtyAreas 4 = .ok (.iload_n 3, 1) := by decide +kernel
theorem dX3_sixtyAreas_5 : decode cX3_sixtyAreas 5 = .ok (.aload_n 0, 1) := by decide +kernel
theorem dX3_sixtyAreas_6 : decode cX3_sixtyAreas 6 = .ok (.invokevirtual 29, 3) := by decide +kernel
theorem dX3_sixtyAreas_9 : decode cX3_sixtyAreas 9 = .ok (.if_icmp .ge 80, 3) := by decide +kernel
theorem dX3_sixtyAreas_12 : decode cX3_sixtyAreas 12 = .ok (.iconst 0, 1) := by decide +kernel
theorem dX3_sixtyAreas_13 : decode cX3_sixtyAreas 13 = .ok (.istore 4, 2) := by decide +kernel
theorem dX3_sixtyAreas_15 : decode cX3_sixtyAreas 15 = .ok (.iload 4, 2) := by decide +kernel
theorem dX3_sixtyAreas_17 : decode cX3_sixtyAreas 17 = .ok (.getstatic 114, 3) := by decide +kernel
theorem dX3_sixtyAreas_20 : decode cX3_sixtyAreas 20 = .ok (.arraylength, 1) := by decide +kernel
theorem dX3_sixtyAreas_21 : decode cX3_sixtyAreas 21 = .ok (.if_icmp .ge 62, 3) := by decide +kernel
theorem dX3_sixtyAreas_24 : decode cX3_sixtyAreas 24 = .ok (.iload 4, 2) := by decide +kernel
theorem dX3_sixtyAreas_26 : decode cX3_sixtyAreas 26 = .ok (.iconst 3, 1) := by decide +kernel
theorem dX3_sixtyAreas_27 : decode cX3_sixtyAreas 27 = .ok (.irem, 1) := by decide +kernel
theorem dX3_sixtyAreas_28 : decode cX3_sixtyAreas 28 = .ok (.istore 5, 2) := by decide +kernel
theorem dX3_sixtyAreas_30 : decode cX3_sixtyAreas 30 = .ok (.aload_n 0, 1) := by decide +kernel
theorem dX3_sixtyAreas_31 : decode cX3_sixtyAreas 31 = .ok (.iload_n 3, 1) := by decide +kernel
theorem dX3_sixtyAreas_32 : decode cX3_sixtyAreas 32 = .ok (.iload 5, 2) := by decide +kernel
theorem dX3_sixtyAreas_34 : decode cX3_sixtyAreas 34 = .ok (.iconst 1, 1) := by decide +kernel
theorem dX3_sixtyAreas_35 : decode cX3_sixtyAreas 35 = .ok (.iadd, 1) := by decide +kernel
theorem dX3_sixtyAreas_36 : decode cX3_sixtyAreas 36 = .ok (.iconst 1, 1) := by decide +kernel
theorem dX3_sixtyAreas_37 : decode cX3_sixtyAreas 37 = .ok (.invokevirtual 117, 3) := by decide +kernel
theorem dX3_sixtyAreas_40 : decode cX3_sixtyAreas 40 = .ok (.aload_n 0, 1) := by decide +kernel
theorem dX3_sixtyAreas_41 : decode cX3_sixtyAreas 41 = .ok (.iload_n 3, 1) := by decide +kernel
theorem dX3_sixtyAreas_42 : decode cX3_sixtyAreas 42 = .ok (.iload 5, 2) := by decide +kernel
theorem dX3_sixtyAreas_44 : decode cX3_sixtyAreas 44 = .ok (.iconst 1, 1) := by decide +kernel
theorem dX3_sixtyAreas_45 : decode cX3_sixtyAreas 45 = .ok (.invokevirtual 117, 3) := by decide +kernel
theorem dX3_sixtyAreas_48 : decode cX3_sixtyAreas 48 = .ok (.isub, 1) := by decide +kernel
theorem dX3_sixtyAreas_49 : decode cX3_sixtyAreas 49 = .ok (.i2l, 1) := by decide +kernel
theorem dX3_sixtyAreas_50 : decode cX3_sixtyAreas 50 = .ok (.lstore 6, 2) := by decide +kernel
theorem dX3_sixtyAreas_52 : decode cX3_sixtyAreas 52 = .ok (.lload_n 1, 1) := by decide +kernel
theorem dX3_sixtyAreas_53 : decode cX3_sixtyAreas 53 = .ok (.getstatic 114, 3) := by decide +kernel
theorem dX3_sixtyAreas_56 : decode cX3_sixtyAreas 56 = .ok (.iload 4, 2) := by decide +kernel
theorem dX3_sixtyAreas_58 : decode cX3_sixtyAreas 58 = .ok (.iaload, 1) := by decide +kernel
theorem dX3_sixtyAreas_59 : decode cX3_sixtyAreas 59 = .ok (.i2l, 1) := by decide +kernel
theorem dX3_sixtyAreas_60 : decode cX3_sixtyAreas 60 = .ok (.lload 6, 2) := by decide +kernel
theorem dX3_sixtyAreas_62 : decode cX3_sixtyAreas 62 = .ok (.lmul, 1) := by decide +kernel
theorem dX3_sixtyAreas_63 : decode cX3_sixtyAreas 63 = .ok (.aload_n 0, 1) := by decide +kernel
theorem dX3_sixtyAreas_64 : decode cX3_sixtyAreas 64 = .ok (.iload_n 3, 1) := by decide +kernel
theorem dX3_sixtyAreas_65 : decode cX3_sixtyAreas 65 = .ok (.iload 4, 2) := by decide +kernel
theorem dX3_sixtyAreas_67 : decode cX3_sixtyAreas 67 = .ok (.iconst 3, 1) := by decide +kernel
theorem dX3_sixtyAreas_68 : decode cX3_sixtyAreas 68 = .ok (.idiv, 1) := by decide +kernel
theorem dX3_sixtyAreas_69 : decode cX3_sixtyAreas 69 = .ok (.iconst 0, 1) := by decide +kernel
theorem dX3_sixtyAreas_70 : decode cX3_sixtyAreas 70 = .ok (.invokevirtual 117, 3) := by decide +kernel
theorem dX3_sixtyAreas_73 : decode cX3_sixtyAreas 73 = .ok (.i2l, 1) := by decide +kernel
theorem dX3_sixtyAreas_74 : decode cX3_sixtyAreas 74 = .ok (.lmul, 1) := by decide +kernel
theorem dX3_sixtyAreas_75 : decode cX3_sixtyAreas 75 = .ok (.ladd, 1) := by decide +kernel
theorem dX3_sixtyAreas_76 : decode cX3_sixtyAreas 76 = .ok (.lstore_n 1, 1) := by decide +kernel
theorem dX3_sixtyAreas_77 : decode cX3_sixtyAreas 77 = .ok (.iinc 4 1, 3) := by decide +kernel
theorem dX3_sixtyAreas_80 : decode cX3_sixtyAreas 80 = .ok (.goto (-65), 3) := by decide +kernel
theorem dX3_sixtyAreas_83 : decode cX3_sixtyAreas 83 = .ok (.iinc 3 1, 3) := by decide +kernel
theorem dX3_sixtyAreas_86 : decode cX3_sixtyAreas 86 = .ok (.goto (-82), 3) := by decide +kernel
theorem dX3_sixtyAreas_89 : decode cX3_sixtyAreas 89 = .ok (.lload_n 1, 1) := by decide +kernel
theorem dX3_sixtyAreas_90 : decode cX3_sixtyAreas 90 = .ok (.lreturn, 1) := by decide +kernel
theorem dX3_extreme_0 : decode cX3_extreme 0 = .ok (.aload_n 0, 1) := by decide +kernel
theorem dX3_extreme_1 : decode cX3_extreme 1 = .ok (.iconst 0, 1) := by decide +kernel
theorem dX3_extreme_2 : decode cX3_extreme 2 = .ok (.iconst 0, 1) := by decide +kernel
theorem dX3_extreme_3 : decode cX3_extreme 3 = .ok (.iload_n 1, 1) := by decide +kernel
theorem dX3_extreme_4 : decode cX3_extreme 4 = .ok (.iadd, 1) := by decide +kernel
theorem dX3_extreme_5 : decode cX3_extreme 5 = .ok (.invokevirtual 33, 3) := by decide +kernel
theorem dX3_extreme_8 : decode cX3_extreme 8 = .ok (.istore_n 3, 1) := by decide +kernel
theorem dX3_extreme_9 : decode cX3_extreme 9 = .ok (.iconst 0, 1) := by decide +kernel
theorem dX3_extreme_10 : decode cX3_extreme 10 = .ok (.istore 4, 2) := by decide +kernel
theorem dX3_extreme_12 : decode cX3_extreme 12 = .ok (.iload 4, 2) := by decide +kernel
theorem dX3_extreme_14 : decode cX3_extreme 14 = .ok (.aload_n 0, 1) := by decide +kernel
theorem dX3_extreme_15 : decode cX3_extreme 15 = .ok (.invokevirtual 29, 3) := by decide +kernel
theorem dX3_extreme_18 : decode cX3_extreme 18 = .ok (.if_icmp .ge 55, 3) := by decide +kernel
theorem dX3_extreme_21 : decode cX3_extreme 21 = .ok (.iconst 0, 1) := by decide +kernel
theorem dX3_extreme_22 : decode cX3_extreme 22 = .ok (.istore 5, 2) := by decide +kernel
theorem dX3_extreme_24 : decode cX3_extreme 24 = .ok (.iload 5, 2) := by decide +kernel
theorem dX3_extreme_26 : decode cX3_extreme 26 = .ok (.iconst 4, 1) := by decide +kernel
theorem dX3_extreme_27 : decode cX3_extreme 27 = .ok (.if_icmp .ge 40, 3) := by decide +kernel
theorem dX3_extreme_30 : decode cX3_extreme 30 = .ok (.aload_n 0, 1) := by decide +kernel
theorem dX3_extreme_31 : decode cX3_extreme 31 = .ok (.iload 4, 2) := by decide +kernel
theorem dX3_extreme_33 : decode cX3_extreme 33 = .ok (.iload 5, 2) := by decide +kernel
theorem dX3_extreme_35 : decode cX3_extreme 35 = .ok (.iload_n 1, 1) := by decide +kernel
theorem dX3_extreme_36 : decode cX3_extreme 36 = .ok (.invokevirtual 117, 3) := by decide +kernel
theorem dX3_extreme_39 : decode cX3_extreme 39 = .ok (.istore 6, 2) := by decide +kernel
theorem dX3_extreme_41 : decode cX3_extreme 41 = .ok (.iload_n 2, 1) := by decide +kernel
theorem dX3_extreme_42 : decode cX3_extreme 42 = .ok (.ifCond .eq 12, 3) := by decide +kernel
theorem dX3_extreme_45 : decode cX3_extreme 45 = .ok (.iload_n 3, 1) := by decide +kernel
theorem dX3_extreme_46 : decode cX3_extreme 46 = .ok (.iload 6, 2) := by decide +kernel
theorem dX3_extreme_48 : decode cX3_extreme 48 = .ok (.invokestatic 121, 3) := by decide +kernel
theorem dX3_extreme_51 : decode cX3_extreme 51 = .ok (.goto 9, 3) := by decide +kernel
theorem dX3_extreme_54 : decode cX3_extreme 54 = .ok (.iload_n 3, 1) := by decide +kernel
theorem dX3_extreme_55 : decode cX3_extreme 55 = .ok (.iload 6, 2) := by decide +kernel
theorem dX3_extreme_57 : decode cX3_extreme 57 = .ok (.invokestatic 126, 3) := by decide +kernel
theorem dX3_extreme_60 : decode cX3_extreme 60 = .ok (.istore_n 3, 1) := by decide +kernel
theorem dX3_extreme_61 : decode cX3_extreme 61 = .ok (.iinc 5 1, 3) := by decide +kernel
theorem dX3_extreme_64 : decode cX3_extreme 64 = .ok (.goto (-40), 3) := by decide +kernel
theorem dX3_extreme_67 : decode cX3_extreme 67 = .ok (.iinc 4 1, 3) := by decide +kernel
theorem dX3_extreme_70 : decode cX3_extreme 70 = .ok (.goto (-58), 3) := by decide +kernel
theorem dX3_extreme_73 : decode cX3_extreme 73 = .ok (.iload_n 3, 1) := by decide +kernel
theorem dX3_extreme_74 : decode cX3_extreme 74 = .ok (.ireturn, 1) := by decide +kernel
theorem dX3_nodeAt_0 : decode cX3_nodeAt 0 = .ok (.iconst 0, 1) := by decide +kernel
theorem dX3_nodeAt_1 : decode cX3_nodeAt 1 = .ok (.istore_n 3, 1) := by decide +kernel
theorem dX3_nodeAt_2 : decode cX3_nodeAt 2 = .ok (.iload_n 3, 1) := by decide +kernel
theorem dX3_nodeAt_3 : decode cX3_nodeAt 3 = .ok (.aload_n 0, 1) := by decide +kernel
theorem dX3_nodeAt_4 : decode cX3_nodeAt 4 = .ok (.getfield 21, 3) := by decide +kernel
theorem dX3_nodeAt_7 : decode cX3_nodeAt 7 = .ok (.if_icmp .ge 31, 3) := by decide +kernel
theorem dX3_nodeAt_10 : decode cX3_nodeAt 10 = .ok (.aload_n 0, 1) := by decide +kernel
theorem dX3_nodeAt_11 : decode cX3_nodeAt 11 = .ok (.iload_n 3, 1) := by decide +kernel
theorem dX3_nodeAt_12 : decode cX3_nodeAt 12 = .ok (.iconst 0, 1) := by decide +kernel
theorem dX3_nodeAt_13 : decode cX3_nodeAt 13 = .ok (.invokevirtual 33, 3) := by decide +kernel
theorem dX3_nodeAt_16 : decode cX3_nodeAt 16 = .ok (.iload_n 1, 1) := by decide +kernel
theorem dX3_nodeAt_17 : decode cX3_nodeAt 17 = .ok (.if_icmp .ne 15, 3) := by decide +kernel
theorem dX3_nodeAt_20 : decode cX3_nodeAt 20 = .ok (.aload_n 0, 1) := by decide +kernel
theorem dX3_nodeAt_21 : decode cX3_nodeAt 21 = .ok (.iload_n 3, 1) := by decide +kernel
theorem dX3_nodeAt_22 : decode cX3_nodeAt 22 = .ok (.iconst 1, 1) := by decide +kernel
theorem dX3_nodeAt_23 : decode cX3_nodeAt 23 = .ok (.invokevirtual 33, 3) := by decide +kernel
theorem dX3_nodeAt_26 : decode cX3_nodeAt 26 = .ok (.iload_n 2, 1) := by decide +kernel
theorem dX3_nodeAt_27 : decode cX3_nodeAt 27 = .ok (.if_icmp .ne 5, 3) := by decide +kernel
theorem dX3_nodeAt_30 : decode cX3_nodeAt 30 = .ok (.iload_n 3, 1) := by decide +kernel
theorem dX3_nodeAt_31 : decode cX3_nodeAt 31 = .ok (.ireturn, 1) := by decide +kernel
theorem dX3_nodeAt_32 : decode cX3_nodeAt 32 = .ok (.iinc 3 1, 3) := by decide +kernel
theorem dX3_nodeAt_35 : decode cX3_nodeAt 35 = .ok (.goto (-33), 3) := by decide +kernel
theorem dX3_nodeAt_38 : decode cX3_nodeAt 38 = .ok (.ldc 41, 2) := by decide +kernel
theorem dX3_nodeAt_40 : decode cX3_nodeAt 40 = .ok (.ireturn, 1) := by decide +kernel
theorem dX3_hashOnto_0 : decode cX3_hashOnto 0 = .ok (.lload_n 1, 1) := by decide +kernel
theorem dX3_hashOnto_1 : decode cX3_hashOnto 1 = .ok (.ldc2_w 129, 3) := by decide +kernel
theorem dX3_hashOnto_4 : decode cX3_hashOnto 4 = .ok (.lmul, 1) := by decide +kernel
theorem dX3_hashOnto_5 : decode cX3_hashOnto 5 = .ok (.aload_n 0, 1) := by decide +kernel
theorem dX3_hashOnto_6 : decode cX3_hashOnto 6 = .ok (.getfield 21, 3) := by decide +kernel
theorem dX3_hashOnto_9 : decode cX3_hashOnto 9 = .ok (.i2l, 1) := by decide +kernel
theorem dX3_hashOnto_10 : decode cX3_hashOnto 10 = .ok (.ladd, 1) := by decide +kernel
theorem dX3_hashOnto_11 : decode cX3_hashOnto 11 = .ok (.ldc2_w 129, 3) := by decide +kernel
theorem dX3_hashOnto_14 : decode cX3_hashOnto 14 = .ok (.lmul, 1) := by decide +kernel
theorem dX3_hashOnto_15 : decode cX3_hashOnto 15 = .ok (.aload_n 0, 1) := by decide +kernel
theorem dX3_hashOnto_16 : decode cX3_hashOnto 16 = .ok (.getfield 25, 3) := by decide +kernel
theorem dX3_hashOnto_19 : decode cX3_hashOnto 19 = .ok (.ifCond .eq 7, 3) := by decide +kernel
theorem dX3_hashOnto_22 : decode cX3_hashOnto 22 = .ok (.iconst 1, 1) := by decide +kernel
theorem dX3_hashOnto_23 : decode cX3_hashOnto 23 = .ok (.goto 4, 3) := by decide +kernel
theorem dX3_hashOnto_26 : decode cX3_hashOnto 26 = .ok (.iconst 0, 1) := by decide +kernel
theorem dX3_hashOnto_27 : decode cX3_hashOnto 27 = .ok (.i2l, 1) := by decide +kernel
theorem dX3_hashOnto_28 : decode cX3_hashOnto 28 = .ok (.ladd, 1) := by decide +kernel
theorem dX3_hashOnto_29 : decode cX3_hashOnto 29 = .ok (.lstore_n 3, 1) := by decide +kernel
theorem dX3_hashOnto_30 : decode cX3_hashOnto 30 = .ok (.iconst 0, 1) := by decide +kernel
theorem dX3_hashOnto_31 : decode cX3_hashOnto 31 = .ok (.istore 5, 2) := by decide +kernel
theorem dX3_hashOnto_33 : decode cX3_hashOnto 33 = .ok (.iload 5, 2) := by decide +kernel
theorem dX3_hashOnto_35 : decode cX3_hashOnto 35 = .ok (.aload_n 0, 1) := by decide +kernel
theorem dX3_hashOnto_36 : decode cX3_hashOnto 36 = .ok (.getfield 21, 3) := by decide +kernel
theorem dX3_hashOnto_39 : decode cX3_hashOnto 39 = .ok (.if_icmp .ge 73, 3) := by decide +kernel
theorem dX3_hashOnto_42 : decode cX3_hashOnto 42 = .ok (.iconst 0, 1) := by decide +kernel
theorem dX3_hashOnto_43 : decode cX3_hashOnto 43 = .ok (.istore 6, 2) := by decide +kernel
theorem dX3_hashOnto_45 : decode cX3_hashOnto 45 = .ok (.iload 6, 2) := by decide +kernel
theorem dX3_hashOnto_47 : decode cX3_hashOnto 47 = .ok (.bipush 6, 2) := by decide +kernel
theorem dX3_hashOnto_49 : decode cX3_hashOnto 49 = .ok (.if_icmp .ge 25, 3) := by decide +kernel
theorem dX3_hashOnto_52 : decode cX3_hashOnto 52 = .ok (.ldc2_w 129, 3) := by decide +kernel
theorem dX3_hashOnto_55 : decode cX3_hashOnto 55 = .ok (.lload_n 3, 1) := by decide +kernel
theorem dX3_hashOnto_56 : decode cX3_hashOnto 56 = .ok (.lmul, 1) := by decide +kernel
theorem dX3_hashOnto_57 : decode cX3_hashOnto 57 = .ok (.aload_n 0, 1) := by decide +kernel
theorem dX3_hashOnto_58 : decode cX3_hashOnto 58 = .ok (.iload 5, 2) := by decide +kernel
theorem dX3_hashOnto_60 : decode cX3_hashOnto 60 = .ok (.iload 6, 2) := by decide +kernel
theorem dX3_hashOnto_62 : decode cX3_hashOnto 62 = .ok (.invokevirtual 33, 3) := by decide +kernel
theorem dX3_hashOnto_65 : decode cX3_hashOnto 65 = .ok (.i2l, 1) := by decide +kernel
theorem dX3_hashOnto_66 : decode cX3_hashOnto 66 = .ok (.ladd, 1) := by decide +kernel
theorem dX3_hashOnto_67 : decode cX3_hashOnto 67 = .ok (.lstore_n 3, 1) := by decide +kernel
theorem dX3_hashOnto_68 : decode cX3_hashOnto 68 = .ok (.iinc 6 1, 3) := by decide +kernel
theorem dX3_hashOnto_71 : decode cX3_hashOnto 71 = .ok (.goto (-26), 3) := by decide +kernel
theorem dX3_hashOnto_74 : decode cX3_hashOnto 74 = .ok (.ldc2_w 129, 3) := by decide +kernel
theorem dX3_hashOnto_77 : decode cX3_hashOnto 77 = .ok (.lload_n 3, 1) := by decide +kernel
theorem dX3_hashOnto_78 : decode cX3_hashOnto 78 = .ok (.lmul, 1) := by decide +kernel
theorem dX3_hashOnto_79 : decode cX3_hashOnto 79 = .ok (.aload_n 0, 1) := by decide +kernel
theorem dX3_hashOnto_80 : decode cX3_hashOnto 80 = .ok (.iload 5, 2) := by decide +kernel
theorem dX3_hashOnto_82 : decode cX3_hashOnto 82 = .ok (.bipush 6, 2) := by decide +kernel
theorem dX3_hashOnto_84 : decode cX3_hashOnto 84 = .ok (.invokevirtual 131, 3) := by decide +kernel
theorem dX3_hashOnto_87 : decode cX3_hashOnto 87 = .ok (.i2l, 1) := by decide +kernel
theorem dX3_hashOnto_88 : decode cX3_hashOnto 88 = .ok (.ladd, 1) := by decide +kernel
theorem dX3_hashOnto_89 : decode cX3_hashOnto 89 = .ok (.lstore_n 3, 1) := by decide +kernel
theorem dX3_hashOnto_90 : decode cX3_hashOnto 90 = .ok (.ldc2_w 129, 3) := by decide +kernel
theorem dX3_hashOnto_93 : decode cX3_hashOnto 93 = .ok (.lload_n 3, 1) := by decide +kernel
theorem dX3_hashOnto_94 : decode cX3_hashOnto 94 = .ok (.lmul, 1) := by decide +kernel
theorem dX3_hashOnto_95 : decode cX3_hashOnto 95 = .ok (.aload_n 0, 1) := by decide +kernel
theorem dX3_hashOnto_96 : decode cX3_hashOnto 96 = .ok (.iload 5, 2) := by decide +kernel
theorem dX3_hashOnto_98 : decode cX3_hashOnto 98 = .ok (.bipush 7, 2) := by decide +kernel
theorem dX3_hashOnto_100 : decode cX3_hashOnto 100 = .ok (.invokevirtual 131, 3) := by decide +kernel
theorem dX3_hashOnto_103 : decode cX3_hashOnto 103 = .ok (.i2l, 1) := by decide +kernel
theorem dX3_hashOnto_104 : decode cX3_hashOnto 104 = .ok (.ladd, 1) := by decide +kernel
theorem dX3_hashOnto_105 : decode cX3_hashOnto 105 = .ok (.lstore_n 3, 1) := by decide +kernel
theorem dX3_hashOnto_106 : decode cX3_hashOnto 106 = .ok (.iinc 5 1, 3) := by decide +kernel
theorem dX3_hashOnto_109 : decode cX3_hashOnto 109 = .ok (.goto (-76), 3) := by decide +kernel
theorem dX3_hashOnto_112 : decode cX3_hashOnto 112 = .ok (.aload_n 0, 1) := by decide +kernel
theorem dX3_hashOnto_113 : decode cX3_hashOnto 113 = .ok (.getfield 25, 3) := by decide +kernel
theorem dX3_hashOnto_116 : decode cX3_hashOnto 116 = .ok (.ifCond .eq 16, 3) := by decide +kernel
theorem dX3_hashOnto_119 : decode cX3_hashOnto 119 = .ok (.ldc2_w 129, 3) := by decide +kernel
theorem dX3_hashOnto_122 : decode cX3_hashOnto 122 = .ok (.lload_n 3, 1) := by decide +kernel
theorem dX3_hashOnto_123 : decode cX3_hashOnto 123 = .ok (.lmul, 1) := by decide +kernel
theorem dX3_hashOnto_124 : decode cX3_hashOnto 124 = .ok (.aload_n 0, 1) := by decide +kernel
theorem dX3_hashOnto_125 : decode cX3_hashOnto 125 = .ok (.invokevirtual 134, 3) := by decide +kernel
theorem dX3_hashOnto_128 : decode cX3_hashOnto 128 = .ok (.ladd, 1) := by decide +kernel
theorem dX3_hashOnto_129 : decode cX3_hashOnto 129 = .ok (.goto 4, 3) := by decide +kernel
theorem dX3_hashOnto_132 : decode cX3_hashOnto 132 = .ok (.lload_n 3, 1) := by decide +kernel
theorem dX3_hashOnto_133 : decode cX3_hashOnto 133 = .ok (.lreturn, 1) := by decide +kernel
theorem dX4_init_0 : decode cX4_init 0 = .ok (.aload_n 0, 1) := by decide +kernel
theorem dX4_init_1 : decode cX4_init 1 = .ok (.invokespecial 3, 3) := by decide +kernel
theorem dX4_init_4 : decode cX4_init 4 = .ok (.aload_n 0, 1) := by decide +kernel
theorem dX4_init_5 : decode cX4_init 5 = .ok (.bipush 6, 2) := by decide +kernel
theorem dX4_init_7 : decode cX4_init 7 = .ok (.anewarray 9, 3) := by decide +kernel
theorem dX4_init_10 : decode cX4_init 10 = .ok (.putfield 11, 3) := by decide +kernel
theorem dX4_init_13 : decode cX4_init 13 = .ok (.iconst 0, 1) := by decide +kernel
theorem dX4_init_14 : decode cX4_init 14 = .ok (.istore_n 1, 1) := by decide +kernel
theorem dX4_init_15 : decode cX4_init 15 = .ok (.iload_n 1, 1) := by decide +kernel
theorem dX4_init_16 : decode cX4_init 16 = .ok (.bipush 6, 2) := by decide +kernel
theorem dX4_init_18 : decode cX4_init 18 = .ok (.if_icmp .ge 22, 3) := by decide +kernel
theorem dX4_init_21 : decode cX4_init 21 = .ok (.aload_n 0, 1) := by decide +kernel
theorem dX4_init_22 : decode cX4_init 22 = .ok (.getfield 11, 3) := by decide +kernel
theorem dX4_init_25 : decode cX4_init 25 = .ok (.iload_n 1, 1) := by decide +kernel
theorem dX4_init_26 : decode cX4_init 26 = .ok (.new 9, 3) := by decide +kernel
theorem dX4_init_29 : decode cX4_init 29 = .ok (.dup, 1) := by decide +kernel
theorem dX4_init_30 : decode cX4_init 30 = .ok (.invokespecial 17, 3) := by decide +kernel
theorem dX4_init_33 : decode cX4_init 33 = .ok (.aastore, 1) := by decide +kernel
theorem dX4_init_34 : decode cX4_init 34 = .ok (.iinc 1 1, 3) := by decide +kernel
theorem dX4_init_37 : decode cX4_init 37 = .ok (.goto (-22), 3) := by decide +kernel
theorem dX4_init_40 : decode cX4_init 40 = .ok (.return_, 1) := by decide +kernel
theorem dX4_copyFrom_0 : decode cX4_copyFrom 0 = .ok (.iconst 0, 1) := by decide +kernel
theorem dX4_copyFrom_1 : decode cX4_copyFrom 1 = .ok (.istore_n 2, 1) := by decide +kernel
theorem dX4_copyFrom_2 : decode cX4_copyFrom 2 = .ok (.iload_n 2, 1) := by decide +kernel
theorem dX4_copyFrom_3 : decode cX4_copyFrom 3 = .ok (.aload_n 1, 1) := by decide +kernel
theorem dX4_copyFrom_4 : decode cX4_copyFrom 4 = .ok (.getfield 18, 3) := by decide +kernel
theorem dX4_copyFrom_7 : decode cX4_copyFrom 7 = .ok (.if_icmp .ge 24, 3) := by decide +kernel
theorem dX4_copyFrom_10 : decode cX4_copyFrom 10 = .ok (.aload_n 0, 1) := by decide +kernel
theorem dX4_copyFrom_11 : decode cX4_copyFrom 11 = .ok (.getfield 11, 3) := by decide +kernel
theorem dX4_copyFrom_14 : decode cX4_copyFrom 14 = .ok (.iload_n 2, 1) := by decide +kernel
theorem dX4_copyFrom_15 : decode cX4_copyFrom 15 = .ok (.aaload, 1) := by decide +kernel
theorem dX4_copyFrom_16 : decode cX4_copyFrom 16 = .ok (.aload_n 1, 1) := by decide +kernel
theorem dX4_copyFrom_17 : decode cX4_copyFrom 17 = .ok (.getfield 11, 3) := by decide +kernel
theorem dX4_copyFrom_20 : decode cX4_copyFrom 20 = .ok (.iload_n 2, 1) := by decide +kernel
theorem dX4_copyFrom_21 : decode cX4_copyFrom 21 = .ok (.aaload, 1) := by decide +kernel
theorem dX4_copyFrom_22 : decode cX4_copyFrom 22 = .ok (.invokevirtual 22, 3) := by decide +kernel
theorem dX4_copyFrom_25 : decode cX4_copyFrom 25 = .ok (.iinc 2 1, 3) := by decide +kernel
theorem dX4_copyFrom_28 : decode cX4_copyFrom 28 = .ok (.goto (-26), 3) := by decide +kernel
theorem dX4_copyFrom_31 : decode cX4_copyFrom 31 = .ok (.aload_n 0, 1) := by decide +kernel
theorem dX4_copyFrom_32 : decode cX4_copyFrom 32 = .ok (.aload_n 1, 1) := by decide +kernel
theorem dX4_copyFrom_33 : decode cX4_copyFrom 33 = .ok (.getfield 18, 3) := by decide +kernel
theorem dX4_copyFrom_36 : decode cX4_copyFrom 36 = .ok (.putfield 18, 3) := by decide +kernel
theorem dX4_copyFrom_39 : decode cX4_copyFrom 39 = .ok (.return_, 1) := by decide +kernel
theorem dX4_pathAt_0 : decode cX4_pathAt 0 = .ok (.iload_n 1, 1) := by decide +kernel
theorem dX4_pathAt_1 : decode cX4_pathAt 1 = .ok (.ifCond .lt 11, 3) := by decide +kernel
theorem dX4_pathAt_4 : decode cX4_pathAt 4 = .ok (.iload_n 1, 1) := by decide +kernel
theorem dX4_pathAt_5 : decode cX4_pathAt 5 = .ok (.aload_n 0, 1) := by decide +kernel
theorem dX4_pathAt_6 : decode cX4_pathAt 6 = .ok (.getfield 18, 3) := by decide +kernel
theorem dX4_pathAt_9 : decode cX4_pathAt 9 = .ok (.if_icmp .lt 7, 3) := by decide +kernel
theorem dX4_pathAt_12 : decode cX4_pathAt 12 = .ok (.aconst_null, 1) := by decide +kernel
theorem dX4_pathAt_13 : decode cX4_pathAt 13 = .ok (.goto 9, 3) := by decide +kernel
theorem dX4_pathAt_16 : decode cX4_pathAt 16 = .ok (.aload_n 0, 1) := by decide +kernel
theorem dX4_pathAt_17 : decode cX4_pathAt 17 = .ok (.getfield 11, 3) := by decide +kernel
theorem dX4_pathAt_20 : decode cX4_pathAt 20 = .ok (.iload_n 1, 1) := by decide +kernel
theorem dX4_pathAt_21 : decode cX4_pathAt 21 = .ok (.aaload, 1) := by decide +kernel
theorem dX4_pathAt_22 : decode cX4_pathAt 22 = .ok (.areturn, 1) := by decide +kernel
theorem dX4_newPath_0 : decode cX4_newPath 0 = .ok (.aload_n 0, 1) := by decide +kernel
theorem dX4_newPath_1 : decode cX4_newPath 1 = .ok (.getfield 18, 3) := by decide +kernel
theorem dX4_newPath_4 : decode cX4_newPath 4 = .ok (.bipush 6, 2) := by decide +kernel
theorem dX4_newPath_6 : decode cX4_newPath 6 = .ok (.if_icmp .lt 5, 3) := by decide +kernel
theorem dX4_newPath_9 : decode cX4_newPath 9 = .ok (.aconst_null, 1) := by decide +kernel
theorem dX4_newPath_10 : decode cX4_newPath 10 = .ok (.areturn, 1) := by decide +kernel
theorem dX4_newPath_11 : decode cX4_newPath 11 = .ok (.aload_n 0, 1) := by decide +kernel
theorem dX4_newPath_12 : decode cX4_newPath 12 = .ok (.getfield 11, 3) := by decide +kernel
theorem dX4_newPath_15 : decode cX4_newPath 15 = .ok (.aload_n 0, 1) := by decide +kernel
theorem dX4_newPath_16 : decode cX4_newPath 16 = .ok (.getfield 18, 3) := by decide +kernel
theorem dX4_newPath_19 : decode cX4_newPath 19 = .ok (.aaload, 1) := by decide +kernel
theorem dX4_newPath_20 : decode cX4_newPath 20 = .ok (.astore_n 1, 1) := by decide +kernel
theorem dX4_newPath_21 : decode cX4_newPath 21 = .ok (.aload_n 1, 1) := by decide +kernel
theorem dX4_newPath_22 : decode cX4_newPath 22 = .ok (.invokevirtual 26, 3) := by decide +kernel
theorem dX4_newPath_25 : decode cX4_newPath 25 = .ok (.aload_n 0, 1) := by decide +kernel
theorem dX4_newPath_26 : decode cX4_newPath 26 = .ok (.dup, 1) := by decide +kernel
theorem dX4_newPath_27 : decode cX4_newPath 27 = .ok (.getfield 18, 3) := by decide +kernel
theorem dX4_newPath_30 : decode cX4_newPath 30 = .ok (.iconst 1, 1) := by decide +kernel
theorem dX4_newPath_31 : decode cX4_newPath 31 = .ok (.iadd, 1) := by decide +kernel
theorem dX4_newPath_32 : decode cX4_newPath 32 = .ok (.putfield 18, 3) := by decide +kernel
theorem dX4_newPath_35 : decode cX4_newPath 35 = .ok (.aload_n 1, 1) := by decide +kernel
theorem dX4_newPath_36 : decode cX4_newPath 36 = .ok (.areturn, 1) := by decide +kernel
theorem dX4_dropPath_0 : decode cX4_dropPath 0 = .ok (.iload_n 1, 1) := by decide +kernel
theorem dX4_dropPath_1 : decode cX4_dropPath 1 = .ok (.ifCond .lt 11, 3) := by decide +kernel
theorem dX4_dropPath_4 : decode cX4_dropPath 4 = .ok (.iload_n 1, 1) := by decide +kernel
theorem dX4_dropPath_5 : decode cX4_dropPath 5 = .ok (.aload_n 0, 1) := by decide +kernel
theorem dX4_dropPath_6 : decode cX4_dropPath 6 = .ok (.getfield 18, 3) := by decide +kernel
theorem dX4_dropPath_9 : decode cX4_dropPath 9 = .ok (.if_icmp .lt 4, 3) := by decide +kernel
theorem dX4_dropPath_12 : decode cX4_dropPath 12 = .ok (.return_, 1) := by decide +kernel
theorem dX4_dropPath_13 : decode cX4_dropPath 13 = .ok (.aload_n 0, 1) := by decide +kernel
theorem dX4_dropPath_14 : decode cX4_dropPath 14 = .ok (.getfield 11, 3) := by decide +kernel
theorem dX4_dropPath_17 : decode cX4_dropPath 17 = .ok (.iload_n 1, 1) := by decide +kernel
theorem dX4_dropPath_18 : decode cX4_dropPath 18 = .ok (.aaload, 1) := by decide +kernel
theorem dX4_dropPath_19 : decode cX4_dropPath 19 = .ok (.astore_n 2, 1) := by decide +kernel
theorem dX4_dropPath_20 : decode cX4_dropPath 20 = .ok (.iload_n 1, 1) := by decide +kernel
theorem dX4_dropPath_21 : decode cX4_dropPath 21 = .ok (.istore_n 3, 1) := by decide +kernel
theorem dX4_dropPath_22 : decode cX4_dropPath 22 = .ok (.iload_n 3, 1) := by decide +kernel
theorem dX4_dropPath_23 : decode cX4_dropPath 23 = .ok (.aload_n 0, 1) := by decide +kernel
theorem dX4_dropPath_24 : decode cX4_dropPath 24 = .ok (.getfield 18, 3) := by decide +kernel
theorem dX4_dropPath_27 : decode cX4_dropPath 27 = .ok (.iconst 1, 1) := by decide +kernel
theorem dX4_dropPath_28 : decode cX4_dropPath 28 = .ok (.isub, 1) := by decide +kernel
theorem dX4_dropPath_29 : decode cX4_dropPath 29 = .ok (.if_icmp .ge 23, 3) := by decide +kernel
theorem dX4_dropPath_32 : decode cX4_dropPath 32 = .ok (.aload_n 0, 1) := by decide +kernel
theorem dX4_dropPath_33 : decode cX4_dropPath 33 = .ok (.getfield 11, 3) := by decide +kernel
theorem dX4_dropPath_36 : decode cX4_dropPath 36 = .ok (.iload_n 3, 1) := by decide +kernel
theorem dX4_dropPath_37 : decode cX4_dropPath 37 = .ok (.aload_n 0, 1) := by decide +kernel
theorem dX4_dropPath_38 : decode cX4_dropPath 38 = .ok (.getfield 11, 3) := by decide +kernel
theorem dX4_dropPath_41 : decode cX4_dropPath 41 = .ok (.iload_n 3, 1) := by decide +kernel
theorem dX4_dropPath_42 : decode cX4_dropPath 42 = .ok (.iconst 1, 1) := by decide +kernel
theorem dX4_dropPath_43 : decode cX4_dropPath 43 = .ok (.iadd, 1) := by decide +kernel
theorem dX4_dropPath_44 : decode cX4_dropPath 44 = .ok (.aaload, 1) := by decide +kernel
theorem dX4_dropPath_45 : decode cX4_dropPath 45 = .ok (.aastore, 1) := by decide +kernel
theorem dX4_dropPath_46 : decode cX4_dropPath 46 = .ok (.iinc 3 1, 3) := by decide +kernel
theorem dX4_dropPath_49 : decode cX4_dropPath 49 = .ok (.goto (-27), 3) := by decide +kernel
theorem dX4_dropPath_52 : decode cX4_dropPath 52 = .ok (.aload_n 0, 1) := by decide +kernel
theorem dX4_dropPath_53 : decode cX4_dropPath 53 = .ok (.dup, 1) := by decide +kernel
theorem dX4_dropPath_54 : decode cX4_dropPath 54 = .ok (.getfield 18, 3) := by decide +kernel
theorem dX4_dropPath_57 : decode cX4_dropPath 57 = .ok (.iconst 1, 1) := by decide +kernel
theorem dX4_dropPath_58 : decode cX4_dropPath 58 = .ok (.isub, 1) := by decide +kernel
theorem dX4_dropPath_59 : decode cX4_dropPath 59 = .ok (.putfield 18, 3) := by decide +kernel
theorem dX4_dropPath_62 : decode cX4_dropPath 62 = .ok (.aload_n 0, 1) := by decide +kernel
theorem dX4_dropPath_63 : decode cX4_dropPath 63 = .ok (.getfield 11, 3) := by decide +kernel
theorem dX4_dropPath_66 : decode cX4_dropPath 66 = .ok (.aload_n 0, 1) := by decide +kernel
theorem dX4_dropPath_67 : decode cX4_dropPath 67 = .ok (.getfield 18, 3) := by decide +kernel
theorem dX4_dropPath_70 : decode cX4_dropPath 70 = .ok (.aload_n 2, 1) := by decide +kernel
theorem dX4_dropPath_71 : decode cX4_dropPath 71 = .ok (.aastore, 1) := by decide +kernel
theorem dX4_dropPath_72 : decode cX4_dropPath 72 = .ok (.return_, 1) := by decide +kernel
theorem dX5_init_0 : decode cX5_init 0 = .ok (.aload_n 0, 1) := by decide +kernel
theorem dX5_init_1 : decode cX5_init 1 = .ok (.invokespecial 3, 3) := by decide +kernel
theorem dX5_init_4 : decode cX5_init 4 = .ok (.aload_n 0, 1) := by decide +kernel
theorem dX5_init_5 : decode cX5_init 5 = .ok (.sipush 341, 3) := by decide +kernel
theorem dX5_init_8 : decode cX5_init 8 = .ok (.newarray .byte, 2) := by decide +kernel
theorem dX5_init_10 : decode cX5_init 10 = .ok (.putfield 9, 3) := by decide +kernel
theorem dX5_init_13 : decode cX5_init 13 = .ok (.return_, 1) := by decide +kernel
theorem dX5_canShow_0 : decode cX5_canShow 0 = .ok (.iconst 0, 1) := by decide +kernel
theorem dX5_canShow_1 : decode cX5_canShow 1 = .ok (.istore_n 1, 1) := by decide +kernel
theorem dX5_canShow_2 : decode cX5_canShow 2 = .ok (.iload_n 1, 1) := by decide +kernel
theorem dX5_canShow_3 : decode cX5_canShow 3 = .ok (.aload_n 0, 1) := by decide +kernel
theorem dX5_canShow_4 : decode cX5_canShow 4 = .ok (.getfield 15, 3) := by decide +kernel
theorem dX5_canShow_7 : decode cX5_canShow 7 = .ok (.if_icmp .ge 72, 3) := by decide +kernel
theorem dX5_canShow_10 : decode cX5_canShow 10 = .ok (.iload_n 1, 1) := by decide +kernel
theorem dX5_canShow_11 : decode cX5_canShow 11 = .ok (.ifCond .le 7, 3) := by decide +kernel
theorem dX5_canShow_14 : decode cX5_canShow 14 = .ok (.iconst 1, 1) := by decide +kernel
theorem dX5_canShow_15 : decode cX5_canShow 15 = .ok (.goto 4, 3) := by decide +kernel
theorem dX5_canShow_18 : decode cX5_canShow 18 = .ok (.iconst 0, 1) := by decide +kernel
theorem dX5_canShow_19 : decode cX5_canShow 19 = .ok (.istore_n 2, 1) := by decide +kernel
theorem dX5_canShow_20 : decode cX5_canShow 20 = .ok (.iload_n 1, 1) := by decide +kernel
theorem dX5_canShow_21 : decode cX5_canShow 21 = .ok (.aload_n 0, 1) := by decide +kernel
theorem dX5_canShow_22 : decode cX5_canShow 22 = .ok (.getfield 15, 3) := by decide +kernel
theorem dX5_canShow_25 : decode cX5_canShow 25 = .ok (.iconst 1, 1) := by decide +kernel
theorem dX5_canShow_26 : decode cX5_canShow 26 = .ok (.isub, 1) := by decide +kernel
theorem dX5_canShow_27 : decode cX5_canShow 27 = .ok (.if_icmp .ge 7, 3) := by decide +kernel
theorem dX5_canShow_30 : decode cX5_canShow 30 = .ok (.iconst 1, 1) := by decide +kernel
theorem dX5_canShow_31 : decode cX5_canShow 31 = .ok (.goto 4, 3) := by decide +kernel
theorem dX5_canShow_34 : decode cX5_canShow 34 = .ok (.iconst 0, 1) := by decide +kernel
theorem dX5_canShow_35 : decode cX5_canShow 35 = .ok (.istore_n 3, 1) := by decide +kernel
theorem dX5_canShow_36 : decode cX5_canShow 36 = .ok (.aload_n 0, 1) := by decide +kernel
theorem dX5_canShow_37 : decode cX5_canShow 37 = .ok (.iload_n 1, 1) := by decide +kernel
theorem dX5_canShow_38 : decode cX5_canShow 38 = .ok (.iconst 0, 1) := by decide +kernel
theorem dX5_canShow_39 : decode cX5_canShow 39 = .ok (.invokestatic 21, 3) := by decide +kernel
theorem dX5_canShow_42 : decode cX5_canShow 42 = .ok (.ifCond .eq 29, 3) := by decide +kernel
theorem dX5_canShow_45 : decode cX5_canShow 45 = .ok (.iload_n 2, 1) := by decide +kernel
theorem dX5_canShow_46 : decode cX5_canShow 46 = .ok (.ifCond .eq 12, 3) := by decide +kernel
theorem dX5_canShow_49 : decode cX5_canShow 49 = .ok (.aload_n 0, 1) := by decide +kernel
theorem dX5_canShow_50 : decode cX5_canShow 50 = .ok (.iload_n 1, 1) := by decide +kernel
theorem dX5_canShow_51 : decode cX5_canShow 51 = .ok (.iconst 2, 1) := by decide +kernel
theorem dX5_canShow_52 : decode cX5_canShow 52 = .ok (.invokestatic 21, 3) := by decide +kernel
theorem dX5_canShow_55 : decode cX5_canShow 55 = .ok (.ifCond .eq 16, 3) := by decide +kernel
theorem dX5_canShow_58 : decode cX5_canShow 58 = .ok (.iload_n 3, 1) := by decide +kernel
theorem dX5_canShow_59 : decode cX5_canShow 59 = .ok (.ifCond .eq 14, 3) := by decide +kernel
theorem dX5_canShow_62 : decode cX5_canShow 62 = .ok (.aload_n 0, 1) := by decide +kernel
theorem dX5_canShow_63 : decode cX5_canShow 63 = .ok (.iload_n 1, 1) := by decide +kernel
theorem dX5_canShow_64 : decode cX5_canShow 64 = .ok (.iconst 4, 1) := by decide +kernel
theorem dX5_canShow_65 : decode cX5_canShow 65 = .ok (.invokestatic 21, 3) := by decide +kernel
theorem dX5_canShow_68 : decode cX5_canShow 68 = .ok (.ifCond .ne 5, 3) := by decide +kernel
theorem dX5_canShow_71 : decode cX5_canShow 71 = .ok (.iconst 0, 1) := by decide +kernel
theorem dX5_canShow_72 : decode cX5_canShow 72 = .ok (.ireturn, 1) := by decide +kernel
theorem dX5_canShow_73 : decode cX5_canShow 73 = .ok (.iinc 1 1, 3) := by decide +kernel
theorem dX5_canShow_76 : decode cX5_canShow 76 = .ok (.goto (-74), 3) := by decide +kernel
theorem dX5_canShow_79 : decode cX5_canShow 79 = .ok (.aload_n 0, 1) := by decide +kernel
theorem dX5_canShow_80 : decode cX5_canShow 80 = .ok (.getfield 25, 3) := by decide +kernel
theorem dX5_canShow_83 : decode cX5_canShow 83 = .ok (.ifCond .eq 16, 3) := by decide +kernel
theorem dX5_canShow_86 : decode cX5_canShow 86 = .ok (.aload_n 0, 1) := by decide +kernel
theorem dX5_canShow_87 : decode cX5_canShow 87 = .ok (.aload_n 0, 1) := by decide +kernel
theorem dX5_canShow_88 : decode cX5_canShow 88 = .ok (.getfield 15, 3) := by decide +kernel
theorem dX5_canShow_91 : decode cX5_canShow 91 = .ok (.iconst 1, 1) := by decide +kernel
theorem dX5_canShow_92 : decode cX5_canShow 92 = .ok (.isub, 1) := by decide +kernel
theorem dX5_canShow_93 : decode cX5_canShow 93 = .ok (.invokevirtual 29, 3) := by decide +kernel
theorem dX5_canShow_96 : decode cX5_canShow 96 = .ok (.ifCond .eq 7, 3) := by decide +kernel
theorem dX5_canShow_99 : decode cX5_canShow 99 = .ok (.iconst 1, 1) := by decide +kernel
theorem dX5_canShow_100 : decode cX5_canShow 100 = .ok (.goto 4, 3) := by decide +kernel
theorem dX5_canShow_103 : decode cX5_canShow 103 = .ok (.iconst 0, 1) := by decide +kernel
theorem dX5_canShow_104 : decode cX5_canShow 104 = .ok (.ireturn, 1) := by decide +kernel
theorem dX5_isWhole_0 : decode cX5_isWhole 0 = .ok (.aload_n 0, 1) := by decide +kernel
theorem dX5_isWhole_1 : decode cX5_isWhole 1 = .ok (.iload_n 1, 1) := by decide +kernel
theorem dX5_isWhole_2 : decode cX5_isWhole 2 = .ok (.iload_n 2, 1) := by decide +kernel
theorem dX5_isWhole_3 : decode cX5_isWhole 3 = .ok (.invokevirtual 33, 3) := by decide +kernel
theorem dX5_isWhole_6 : decode cX5_isWhole 6 = .ok (.ldc 37, 2) := by decide +kernel
theorem dX5_isWhole_8 : decode cX5_isWhole 8 = .ok (.irem, 1) := by decide +kernel
theorem dX5_isWhole_9 : decode cX5_isWhole 9 = .ok (.ifCond .ne 21, 3) := by decide +kernel
theorem dX5_isWhole_12 : decode cX5_isWhole 12 = .ok (.aload_n 0, 1) := by decide +kernel
theorem dX5_isWhole_13 : decode cX5_isWhole 13 = .ok (.iload_n 1, 1) := by decide +kernel
theorem dX5_isWhole_14 : decode cX5_isWhole 14 = .ok (.iload_n 2, 1) := by decide +kernel
theorem dX5_isWhole_15 : decode cX5_isWhole 15 = .ok (.iconst 1, 1) := by decide +kernel
theorem dX5_isWhole_16 : decode cX5_isWhole 16 = .ok (.iadd, 1) := by decide +kernel
theorem dX5_isWhole_17 : decode cX5_isWhole 17 = .ok (.invokevirtual 33, 3) := by decide +kernel
theorem dX5_isWhole_20 : decode cX5_isWhole 20 = .ok (.ldc 37, 2) := by decide +kernel
theorem dX5_isWhole_22 : decode cX5_isWhole 22 = .ok (.irem, 1) := by decide +kernel
theorem dX5_isWhole_23 : decode cX5_isWhole 23 = .ok (.ifCond .ne 7, 3) := by decide +kernel
theorem dX5_isWhole_26 : decode cX5_isWhole 26 = .ok (.iconst 1, 1) := by decide +kernel
theorem dX5_isWhole_27 : decode cX5_isWhole 27 = .ok (.goto 4, 3) := by decide +kernel
theorem dX5_isWhole_30 : decode cX5_isWhole 30 = .ok (.iconst 0, 1) := by decide +kernel
theorem dX5_isWhole_31 : decode cX5_isWhole 31 = .ok (.ireturn, 1) := by decide +kernel
theorem dX5_show_0 : decode cX5_show 0 = .ok (.aload_n 0, 1) := by decide +kernel
theorem dX5_show_1 : decode cX5_show 1 = .ok (.iconst 0, 1) := by decide +kernel
theorem dX5_show_2 : decode cX5_show 2 = .ok (.putfield 38, 3) := by decide +kernel
theorem dX5_show_5 : decode cX5_show 5 = .ok (.aload_n 0, 1) := by decide +kernel
theorem dX5_show_6 : decode cX5_show 6 = .ok (.bipush 77, 2) := by decide +kernel
theorem dX5_show_8 : decode cX5_show 8 = .ok (.invokevirtual 41, 3) := by decide +kernel
theorem dX5_show_11 : decode cX5_show 11 = .ok (.aload_n 0, 1) := by decide +kernel
theorem dX5_show_12 : decode cX5_show 12 = .ok (.aload_n 1, 1) := by decide +kernel
theorem dX5_show_13 : decode cX5_show 13 = .ok (.iconst 0, 1) := by decide +kernel
theorem dX5_show_14 : decode cX5_show 14 = .ok (.iconst 0, 1) := by decide +kernel
theorem dX5_show_15 : decode cX5_show 15 = .ok (.invokevirtual 45, 3) := by decide +kernel
theorem dX5_show_18 : decode cX5_show 18 = .ok (.iconst 0, 1) := by decide +kernel
theorem dX5_show_19 : decode cX5_show 19 = .ok (.istore_n 2, 1) := by decide +kernel
theorem dX5_show_20 : decode cX5_show 20 = .ok (.iload_n 2, 1) := by decide +kernel
theorem dX5_show_21 : decode cX5_show 21 = .ok (.aload_n 1, 1) := by decide +kernel
theorem dX5_show_22 : decode cX5_show 22 = .ok (.getfield 15, 3) := by decide +kernel
theorem dX5_show_25 : decode cX5_show 25 = .ok (.iconst 1, 1) := by decide +kernel
theorem dX5_show_26 : decode cX5_show 26 = .ok (.isub, 1) := by decide +kernel
theorem dX5_show_27 : decode cX5_show 27 = .ok (.if_icmp .ge 65, 3) := by decide +kernel
theorem dX5_show_30 : decode cX5_show 30 = .ok (.aload_n 1, 1) := by decide +kernel
theorem dX5_show_31 : decode cX5_show 31 = .ok (.iload_n 2, 1) := by decide +kernel
theorem dX5_show_32 : decode cX5_show 32 = .ok (.invokevirtual 29, 3) := by decide +kernel
theorem dX5_show_35 : decode cX5_show 35 = .ok (.ifCond .eq 12, 3) := by decide +kernel
theorem dX5_show_38 : decode cX5_show 38 = .ok (.aload_n 0, 1) := by decide +kernel
theorem dX5_show_39 : decode cX5_show 39 = .ok (.bipush 76, 2) := by decide +kernel
theorem dX5_show_41 : decode cX5_show 41 = .ok (.invokevirtual 41, 3) := by decide +kernel
theorem dX5_show_44 : decode cX5_show 44 = .ok (.goto 35, 3) := by decide +kernel
theorem dX5_show_47 : decode cX5_show 47 = .ok (.aload_n 0, 1) := by decide +kernel
theorem dX5_show_48 : decode cX5_show 48 = .ok (.bipush 67, 2) := by decide +kernel
theorem dX5_show_50 : decode cX5_show 50 = .ok (.invokevirtual 41, 3) := by decide +kernel
theorem dX5_show_53 : decode cX5_show 53 = .ok (.aload_n 0, 1) := by decide +kernel
theorem dX5_show_54 : decode cX5_show 54 = .ok (.aload_n 1, 1) := by decide +kernel
theorem dX5_show_55 : decode cX5_show 55 = .ok (.iload_n 2, 1) := by decide +kernel
theorem dX5_show_56 : decode cX5_show 56 = .ok (.iconst 1, 1) := by decide +kernel
theorem dX5_show_57 : decode cX5_show 57 = .ok (.invokevirtual 45, 3) := by decide +kernel
theorem dX5_show_60 : decode cX5_show 60 = .ok (.aload_n 0, 1) := by decide +kernel
theorem dX5_show_61 : decode cX5_show 61 = .ok (.bipush 32, 2) := by decide +kernel
theorem dX5_show_63 : decode cX5_show 63 = .ok (.invokevirtual 41, 3) := by decide +kernel
theorem dX5_show_66 : decode cX5_show 66 = .ok (.aload_n 0, 1) := by decide +kernel
theorem dX5_show_67 : decode cX5_show 67 = .ok (.aload_n 1, 1) := by decide +kernel
theorem dX5_show_68 : decode cX5_show 68 = .ok (.iload_n 2, 1) := by decide +kernel
theorem dX5_show_69 : decode cX5_show 69 = .ok (.iconst 2, 1) := by decide +kernel
theorem dX5_show_70 : decode cX5_show 70 = .ok (.invokevirtual 45, 3) := by decide +kernel
theorem dX5_show_73 : decode cX5_show 73 = .ok (.aload_n 0, 1) := by decide +kernel
theorem dX5_show_74 : decode cX5_show 74 = .ok (.bipush 32, 2) := by decide +kernel
theorem dX5_show_76 : decode cX5_show 76 = .ok (.invokevirtual 41, 3) := by decide +kernel
theorem dX5_show_79 : decode cX5_show 79 = .ok (.aload_n 0, 1) := by decide +kernel
theorem dX5_show_80 : decode cX5_show 80 = .ok (.aload_n 1, 1) := by decide +kernel
theorem dX5_show_81 : decode cX5_show 81 = .ok (.iload_n 2, 1) := by decide +kernel
theorem dX5_show_82 : decode cX5_show 82 = .ok (.iconst 3, 1) := by decide +kernel
theorem dX5_show_83 : decode cX5_show 83 = .ok (.invokevirtual 45, 3) := by decide +kernel
theorem dX5_show_86 : decode cX5_show 86 = .ok (.iinc 2 1, 3) := by decide +kernel
theorem dX5_show_89 : decode cX5_show 89 = .ok (.goto (-69), 3) := by decide +kernel
theorem dX5_show_92 : decode cX5_show 92 = .ok (.aload_n 1, 1) := by decide +kernel
theorem dX5_show_93 : decode cX5_show 93 = .ok (.getfield 25, 3) := by decide +kernel
theorem dX5_show_96 : decode cX5_show 96 = .ok (.ifCond .eq 9, 3) := by decide +kernel
theorem dX5_show_99 : decode cX5_show 99 = .ok (.aload_n 0, 1) := by decide +kernel
theorem dX5_show_100 : decode cX5_show 100 = .ok (.bipush 90, 2) := by decide +kernel
theorem dX5_show_102 : decode cX5_show 102 = .ok (.invokevirtual 41, 3) := by decide +kernel
theorem dX5_show_105 : decode cX5_show 105 = .ok (.return_, 1) := by decide +kernel
theorem dX5_putPoint_0 : decode cX5_putPoint 0 = .ok (.aload_n 0, 1) := by decide +kernel
theorem dX5_putPoint_1 : decode cX5_putPoint 1 = .ok (.aload_n 1, 1) := by decide +kernel
theorem dX5_putPoint_2 : decode cX5_putPoint 2 = .ok (.iload_n 2, 1) := by decide +kernel
theorem dX5_putPoint_3 : decode cX5_putPoint 3 = .ok (.iload_n 3, 1) := by decide +kernel
theorem dX5_putPoint_4 : decode cX5_putPoint 4 = .ok (.iconst 0, 1) := by decide +kernel
theorem dX5_putPoint_5 : decode cX5_putPoint 5 = .ok (.invokevirtual 49, 3) := by decide +kernel
theorem dX5_putPoint_8 : decode cX5_putPoint 8 = .ok (.ldc 37, 2) := by decide +kernel
theorem dX5_putPoint_10 : decode cX5_putPoint 10 = .ok (.idiv, 1) := by decide +kernel
theorem dX5_putPoint_11 : decode cX5_putPoint 11 = .ok (.invokevirtual 53, 3) := by decide +kernel
theorem dX5_putPoint_14 : decode cX5_putPoint 14 = .ok (.aload_n 0, 1) := by decide +kernel
theorem dX5_putPoint_15 : decode cX5_putPoint 15 = .ok (.bipush 32, 2) := by decide +kernel
theorem dX5_putPoint_17 : decode cX5_putPoint 17 = .ok (.invokevirtual 41, 3) := by decide +kernel
theorem dX5_putPoint_20 : decode cX5_putPoint 20 = .ok (.aload_n 0, 1) := by decide +kernel
theorem dX5_putPoint_21 : decode cX5_putPoint 21 = .ok (.aload_n 1, 1) := by decide +kernel
theorem dX5_putPoint_22 : decode cX5_putPoint 22 = .ok (.iload_n 2, 1) := by decide +kernel
theorem dX5_putPoint_23 : decode cX5_putPoint 23 = .ok (.iload_n 3, 1) := by decide +kernel
theorem dX5_putPoint_24 : decode cX5_putPoint 24 = .ok (.iconst 1, 1) := by decide +kernel
theorem dX5_putPoint_25 : decode cX5_putPoint 25 = .ok (.invokevirtual 49, 3) := by decide +kernel
theorem dX5_putPoint_28 : decode cX5_putPoint 28 = .ok (.ldc 37, 2) := by decide +kernel
theorem dX5_putPoint_30 : decode cX5_putPoint 30 = .ok (.idiv, 1) := by decide +kernel
theorem dX5_putPoint_31 : decode cX5_putPoint 31 = .ok (.invokevirtual 53, 3) := by decide +kernel
theorem dX5_putPoint_34 : decode cX5_putPoint 34 = .ok (.return_, 1) := by decide +kernel
theorem dX5_putNumber_0 : decode cX5_putNumber 0 = .ok (.iload_n 1, 1) := by decide +kernel
theorem dX5_putNumber_1 : decode cX5_putNumber 1 = .ok (.invokestatic 56, 3) := by decide +kernel
theorem dX5_putNumber_4 : decode cX5_putNumber 4 = .ok (.istore_n 2, 1) := by decide +kernel
theorem dX5_putNumber_5 : decode cX5_putNumber 5 = .ok (.iload_n 1, 1) := by decide +kernel
theorem dX5_putNumber_6 : decode cX5_putNumber 6 = .ok (.ifCond .ge 9, 3) := by decide +kernel
theorem dX5_putNumber_9 : decode cX5_putNumber 9 = .ok (.aload_n 0, 1) := by decide +kernel
theorem dX5_putNumber_10 : decode cX5_putNumber 10 = .ok (.bipush 45, 2) := by decide +kernel
theorem dX5_putNumber_12 : decode cX5_putNumber 12 = .ok (.invokevirtual 41, 3) := by decide +kernel
theorem dX5_putNumber_15 : decode cX5_putNumber 15 = .ok (.iload_n 2, 1) := by decide +kernel
theorem dX5_putNumber_16 : decode cX5_putNumber 16 = .ok (.bipush 100, 2) := by decide +kernel
theorem dX5_putNumber_18 : decode cX5_putNumber 18 = .ok (.if_icmp .lt 14, 3) := by decide +kernel
theorem dX5_putNumber_21 : decode cX5_putNumber 21 = .ok (.aload_n 0, 1) := by decide +kernel
theorem dX5_putNumber_22 : decode cX5_putNumber 22 = .ok (.bipush 48, 2) := by decide +kernel
theorem dX5_putNumber_24 : decode cX5_putNumber 24 = .ok (.iload_n 2, 1) := by decide +kernel
theorem dX5_putNumber_25 : decode cX5_putNumber 25 = .ok (.bipush 100, 2) := by decide +kernel
theorem dX5_putNumber_27 : decode cX5_putNumber 27 = .ok (.idiv, 1) := by decide +kernel
theorem dX5_putNumber_28 : decode cX5_putNumber 28 = .ok (.iadd, 1) := by decide +kernel
theorem dX5_putNumber_29 : decode cX5_putNumber 29 = .ok (.invokevirtual 41, 3) := by decide +kernel
theorem dX5_putNumber_32 : decode cX5_putNumber 32 = .ok (.iload_n 2, 1) := by decide +kernel
theorem dX5_putNumber_33 : decode cX5_putNumber 33 = .ok (.bipush 10, 2) := by decide +kernel
theorem dX5_putNumber_35 : decode cX5_putNumber 35 = .ok (.if_icmp .lt 17, 3) := by decide +kernel
theorem dX5_putNumber_38 : decode cX5_putNumber 38 = .ok (.aload_n 0, 1) := by decide +kernel
theorem dX5_putNumber_39 : decode cX5_putNumber 39 = .ok (.bipush 48, 2) := by decide +kernel
theorem dX5_putNumber_41 : decode cX5_putNumber 41 = .ok (.iload_n 2, 1) := by decide +kernel
theorem dX5_putNumber_42 : decode cX5_putNumber 42 = .ok (.bipush 10, 2) := by decide +kernel
theorem dX5_putNumber_44 : decode cX5_putNumber 44 = .ok (.idiv, 1) := by decide +kernel
theorem dX5_putNumber_45 : decode cX5_putNumber 45 = .ok (.bipush 10, 2) := by decide +kernel
theorem dX5_putNumber_47 : decode cX5_putNumber 47 = .ok (.irem, 1) := by decide +kernel
theorem dX5_putNumber_48 : decode cX5_putNumber 48 = .ok (.iadd, 1) := by decide +kernel
theorem dX5_putNumber_49 : decode cX5_putNumber 49 = .ok (.invokevirtual 41, 3) := by decide +kernel
theorem dX5_putNumber_52 : decode cX5_putNumber 52 = .ok (.aload_n 0, 1) := by decide +kernel
theorem dX5_putNumber_53 : decode cX5_putNumber 53 = .ok (.bipush 48, 2) := by decide +kernel
theorem dX5_putNumber_55 : decode cX5_putNumber 55 = .ok (.iload_n 2, 1) := by decide +kernel
theorem dX5_putNumber_56 : decode cX5_putNumber 56 = .ok (.bipush 10, 2) := by decide +kernel
theorem dX5_putNumber_58 : decode cX5_putNumber 58 = .ok (.irem, 1) := by decide +kernel
theorem dX5_putNumber_59 : decode cX5_putNumber 59 = .ok (.iadd, 1) := by decide +kernel
theorem dX5_putNumber_60 : decode cX5_putNumber 60 = .ok (.invokevirtual 41, 3) := by decide +kernel
theorem dX5_putNumber_63 : decode cX5_putNumber 63 = .ok (.return_, 1) := by decide +kernel
theorem dX5_putByte_0 : decode cX5_putByte 0 = .ok (.aload_n 0, 1) := by decide +kernel
theorem dX5_putByte_1 : decode cX5_putByte 1 = .ok (.getfield 38, 3) := by decide +kernel
theorem dX5_putByte_4 : decode cX5_putByte 4 = .ok (.sipush 341, 3) := by decide +kernel
theorem dX5_putByte_7 : decode cX5_putByte 7 = .ok (.if_icmp .ge 24, 3) := by decide +kernel
theorem dX5_putByte_10 : decode cX5_putByte 10 = .ok (.aload_n 0, 1) := by decide +kernel
theorem dX5_putByte_11 : decode cX5_putByte 11 = .ok (.getfield 9, 3) := by decide +kernel
theorem dX5_putByte_14 : decode cX5_putByte 14 = .ok (.aload_n 0, 1) := by decide +kernel
theorem dX5_putByte_15 : decode cX5_putByte 15 = .ok (.getfield 38, 3) := by decide +kernel
theorem dX5_putByte_18 : decode cX5_putByte 18 = .ok (.iload_n 1, 1) := by decide +kernel
theorem dX5_putByte_19 : decode cX5_putByte 19 = .ok (.i2b, 1) := by decide +kernel
theorem dX5_putByte_20 : decode cX5_putByte 20 = .ok (.bastore, 1) := by decide +kernel
theorem dX5_putByte_21 : decode cX5_putByte 21 = .ok (.aload_n 0, 1) := by decide +kernel
theorem dX5_putByte_22 : decode cX5_putByte 22 = .ok (.dup, 1) := by decide +kernel
theorem dX5_putByte_23 : decode cX5_putByte 23 = .ok (.getfield 38, 3) := by decide +kernel
theorem dX5_putByte_26 : decode cX5_putByte 26 = .ok (.iconst 1, 1) := by decide +kernel
theorem dX5_putByte_27 : decode cX5_putByte 27 = .ok (.iadd, 1) := by decide +kernel
theorem dX5_putByte_28 : decode cX5_putByte 28 = .ok (.putfield 38, 3) := by decide +kernel
theorem dX5_putByte_31 : decode cX5_putByte 31 = .ok (.return_, 1) := by decide +kernel
theorem dX6_init_0 : decode cX6_init 0 = .ok (.aload_n 0, 1) := by decide +kernel
theorem dX6_init_1 : decode cX6_init 1 = .ok (.invokespecial 3, 3) := by decide +kernel
theorem dX6_init_4 : decode cX6_init 4 = .ok (.aload_n 0, 1) := by decide +kernel
theorem dX6_init_5 : decode cX6_init 5 = .ok (.bipush 120, 2) := by decide +kernel
theorem dX6_init_7 : decode cX6_init 7 = .ok (.newarray .byte, 2) := by decide +kernel
theorem dX6_init_9 : decode cX6_init 9 = .ok (.putfield 9, 3) := by decide +kernel
theorem dX6_init_12 : decode cX6_init 12 = .ok (.aload_n 0, 1) := by decide +kernel
theorem dX6_init_13 : decode cX6_init 13 = .ok (.new 15, 3) := by decide +kernel
theorem dX6_init_16 : decode cX6_init 16 = .ok (.dup, 1) := by decide +kernel
theorem dX6_init_17 : decode cX6_init 17 = .ok (.invokespecial 17, 3) := by decide +kernel
theorem dX6_init_20 : decode cX6_init 20 = .ok (.putfield 18, 3) := by decide +kernel
theorem dX6_init_23 : decode cX6_init 23 = .ok (.return_, 1) := by decide +kernel
theorem dX6_addByte_0 : decode cX6_addByte 0 = .ok (.aload_n 0, 1) := by decide +kernel
theorem dX6_addByte_1 : decode cX6_addByte 1 = .ok (.getfield 22, 3) := by decide +kernel
theorem dX6_addByte_4 : decode cX6_addByte 4 = .ok (.bipush 120, 2) := by decide +kernel
theorem dX6_addByte_6 : decode cX6_addByte 6 = .ok (.if_icmp .ge 24, 3) := by decide +kernel
theorem dX6_addByte_9 : decode cX6_addByte 9 = .ok (.aload_n 0, 1) := by decide +kernel
theorem dX6_addByte_10 : decode cX6_addByte 10 = .ok (.getfield 9, 3) := by decide +kernel
theorem dX6_addByte_13 : decode cX6_addByte 13 = .ok (.aload_n 0, 1) := by decide +kernel
theorem dX6_addByte_14 : decode cX6_addByte 14 = .ok (.getfield 22, 3) := by decide +kernel
theorem dX6_addByte_17 : decode cX6_addByte 17 = .ok (.iload_n 1, 1) := by decide +kernel
theorem dX6_addByte_18 : decode cX6_addByte 18 = .ok (.i2b, 1) := by decide +kernel
theorem dX6_addByte_19 : decode cX6_addByte 19 = .ok (.bastore, 1) := by decide +kernel
theorem dX6_addByte_20 : decode cX6_addByte 20 = .ok (.aload_n 0, 1) := by decide +kernel
theorem dX6_addByte_21 : decode cX6_addByte 21 = .ok (.dup, 1) := by decide +kernel
theorem dX6_addByte_22 : decode cX6_addByte 22 = .ok (.getfield 22, 3) := by decide +kernel
theorem dX6_addByte_25 : decode cX6_addByte 25 = .ok (.iconst 1, 1) := by decide +kernel
theorem dX6_addByte_26 : decode cX6_addByte 26 = .ok (.iadd, 1) := by decide +kernel
theorem dX6_addByte_27 : decode cX6_addByte 27 = .ok (.putfield 22, 3) := by decide +kernel
theorem dX6_addByte_30 : decode cX6_addByte 30 = .ok (.return_, 1) := by decide +kernel
theorem dX6_parse_0 : decode cX6_parse 0 = .ok (.aload_n 0, 1) := by decide +kernel
theorem dX6_parse_1 : decode cX6_parse 1 = .ok (.iconst 0, 1) := by decide +kernel
theorem dX6_parse_2 : decode cX6_parse 2 = .ok (.putfield 26, 3) := by decide +kernel
theorem dX6_parse_5 : decode cX6_parse 5 = .ok (.aload_n 0, 1) := by decide +kernel
theorem dX6_parse_6 : decode cX6_parse 6 = .ok (.ldc 29, 2) := by decide +kernel
theorem dX6_parse_8 : decode cX6_parse 8 = .ok (.putfield 30, 3) := by decide +kernel
theorem dX6_parse_11 : decode cX6_parse 11 = .ok (.aload_n 0, 1) := by decide +kernel
theorem dX6_parse_12 : decode cX6_parse 12 = .ok (.getfield 18, 3) := by decide +kernel
theorem dX6_parse_15 : decode cX6_parse 15 = .ok (.invokevirtual 33, 3) := by decide +kernel
theorem dX6_parse_18 : decode cX6_parse 18 = .ok (.aload_n 0, 1) := by decide +kernel
theorem dX6_parse_19 : decode cX6_parse 19 = .ok (.bipush 77, 2) := by decide +kernel
theorem dX6_parse_21 : decode cX6_parse 21 = .ok (.invokevirtual 36, 3) := by decide +kernel
theorem dX6_parse_24 : decode cX6_parse 24 = .ok (.aload_n 0, 1) := by decide +kernel
theorem dX6_parse_25 : decode cX6_parse 25 = .ok (.invokevirtual 40, 3) := by decide +kernel
theorem dX6_parse_28 : decode cX6_parse 28 = .ok (.iconst 0, 1) := by decide +kernel
theorem dX6_parse_29 : decode cX6_parse 29 = .ok (.istore_n 1, 1) := by decide +kernel
theorem dX6_parse_30 : decode cX6_parse 30 = .ok (.iload_n 1, 1) := by decide +kernel
theorem dX6_parse_31 : decode cX6_parse 31 = .ok (.bipush 120, 2) := by decide +kernel
theorem dX6_parse_33 : decode cX6_parse 33 = .ok (.if_icmp .ge 33, 3) := by decide +kernel
theorem dX6_parse_36 : decode cX6_parse 36 = .ok (.aload_n 0, 1) := by decide +kernel
theorem dX6_parse_37 : decode cX6_parse 37 = .ok (.getfield 30, 3) := by decide +kernel
theorem dX6_parse_40 : decode cX6_parse 40 = .ok (.ldc 29, 2) := by decide +kernel
theorem dX6_parse_42 : decode cX6_parse 42 = .ok (.if_icmp .ne 24, 3) := by decide +kernel
theorem dX6_parse_45 : decode cX6_parse 45 = .ok (.aload_n 0, 1) := by decide +kernel
theorem dX6_parse_46 : decode cX6_parse 46 = .ok (.getfield 26, 3) := by decide +kernel
theorem dX6_parse_49 : decode cX6_parse 49 = .ok (.aload_n 0, 1) := by decide +kernel
theorem dX6_parse_50 : decode cX6_parse 50 = .ok (.getfield 22, 3) := by decide +kernel
theorem dX6_parse_53 : decode cX6_parse 53 = .ok (.if_icmp .ge 13, 3) := by decide +kernel
theorem dX6_parse_56 : decode cX6_parse 56 = .ok (.aload_n 0, 1) := by decide +kernel
theorem dX6_parse_57 : decode cX6_parse 57 = .ok (.invokevirtual 43, 3) := by decide +kernel
theorem dX6_parse_60 : decode cX6_parse 60 = .ok (.iinc 1 1, 3) := by decide +kernel
theorem dX6_parse_63 : decode cX6_parse 63 = .ok (.goto (-33), 3) := by decide +kernel
theorem dX6_parse_66 : decode cX6_parse 66 = .ok (.return_, 1) := by decide +kernel
theorem dX6_nextByte_0 : decode cX6_nextByte 0 = .ok (.aload_n 0, 1) := by decide +kernel
theorem dX6_nextByte_1 : decode cX6_nextByte 1 = .ok (.getfield 26, 3) := by decide +kernel
theorem dX6_nextByte_4 : decode cX6_nextByte 4 = .ok (.ifCond .lt 35, 3) := by decide +kernel
theorem dX6_nextByte_7 : decode cX6_nextByte 7 = .ok (.aload_n 0, 1) := by decide +kernel
theorem dX6_nextByte_8 : decode cX6_nextByte 8 = .ok (.getfield 26, 3) := by decide +kernel
theorem dX6_nextByte_11 : decode cX6_nextByte 11 = .ok (.aload_n 0, 1) := by decide +kernel
theorem dX6_nextByte_12 : decode cX6_nextByte 12 = .ok (.getfield 22, 3) := by decide +kernel
theorem dX6_nextByte_15 : decode cX6_nextByte 15 = .ok (.if_icmp .ge 24, 3) := by decide +kernel
theorem dX6_nextByte_18 : decode cX6_nextByte 18 = .ok (.aload_n 0, 1) := by decide +kernel
theorem dX6_nextByte_19 : decode cX6_nextByte 19 = .ok (.getfield 26, 3) := by decide +kernel
theorem dX6_nextByte_22 : decode cX6_nextByte 22 = .ok (.bipush 120, 2) := by decide +kernel
theorem dX6_nextByte_24 : decode cX6_nextByte 24 = .ok (.if_icmp .ge 15, 3) := by decide +kernel
theorem dX6_nextByte_27 : decode cX6_nextByte 27 = .ok (.aload_n 0, 1) := by decide +kernel
theorem dX6_nextByte_28 : decode cX6_nextByte 28 = .ok (.getfield 9, 3) := by decide +kernel
theorem dX6_nextByte_31 : decode cX6_nextByte 31 = .ok (.aload_n 0, 1) := by decide +kernel
theorem dX6_nextByte_32 : decode cX6_nextByte 32 = .ok (.getfield 26, 3) := by decide +kernel
theorem dX6_nextByte_35 : decode cX6_nextByte 35 = .ok (.baload, 1) := by decide +kernel
theorem dX6_nextByte_36 : decode cX6_nextByte 36 = .ok (.goto 4, 3) := by decide +kernel
theorem dX6_nextByte_39 : decode cX6_nextByte 39 = .ok (.iconst (-1), 1) := by decide +kernel
theorem dX6_nextByte_40 : decode cX6_nextByte 40 = .ok (.ireturn, 1) := by decide +kernel
theorem dX6_stopAt_0 : decode cX6_stopAt 0 = .ok (.aload_n 0, 1) := by decide +kernel
theorem dX6_stopAt_1 : decode cX6_stopAt 1 = .ok (.getfield 30, 3) := by decide +kernel
theorem dX6_stopAt_4 : decode cX6_stopAt 4 = .ok (.ldc 29, 2) := by decide +kernel
theorem dX6_stopAt_6 : decode cX6_stopAt 6 = .ok (.if_icmp .ne 8, 3) := by decide +kernel
theorem dX6_stopAt_9 : decode cX6_stopAt 9 = .ok (.aload_n 0, 1) := by decide +kernel
theorem dX6_stopAt_10 : decode cX6_stopAt 10 = .ok (.iload_n 1, 1) := by decide +kernel
theorem dX6_stopAt_11 : decode cX6_stopAt 11 = .ok (.putfield 30, 3) := by decide +kernel
theorem dX6_stopAt_14 : decode cX6_stopAt 14 = .ok (.return_, 1) := by decide +kernel
theorem dX6_takeByte_0 : decode cX6_takeByte 0 = .ok (.aload_n 0, 1) := by decide +kernel
theorem dX6_takeByte_1 : decode cX6_takeByte 1 = .ok (.invokevirtual 46, 3) := by decide +kernel
theorem dX6_takeByte_4 : decode cX6_takeByte 4 = .ok (.iload_n 1, 1) := by decide +kernel
theorem dX6_takeByte_5 : decode cX6_takeByte 5 = .ok (.if_icmp .ne 16, 3) := by decide +kernel
theorem dX6_takeByte_8 : decode cX6_takeByte 8 = .ok (.aload_n 0, 1) := by decide +kernel
theorem dX6_takeByte_9 : decode cX6_takeByte 9 = .ok (.dup, 1) := by decide +kernel
theorem dX6_takeByte_10 : decode cX6_takeByte 10 = .ok (.getfield 26, 3) := by decide +kernel
theorem dX6_takeByte_13 : decode cX6_takeByte 13 = .ok (.iconst 1, 1) := by decide +kernel
theorem dX6_takeByte_14 : decode cX6_takeByte 14 = .ok (.iadd, 1) := by decide +kernel
theorem dX6_takeByte_15 : decode cX6_takeByte 15 = .ok (.putfield 26, 3) := by decide +kernel
theorem dX6_takeByte_18 : decode cX6_takeByte 18 = .ok (.goto 11, 3) := by decide +kernel
theorem dX6_takeByte_21 : decode cX6_takeByte 21 = .ok (.aload_n 0, 1) := by decide +kernel
theorem dX6_takeByte_22 : decode cX6_takeByte 22 = .ok (.aload_n 0, 1) := by decide +kernel
theorem dX6_takeByte_23 : decode cX6_takeByte 23 = .ok (.getfield 26, 3) := by decide +kernel
theorem dX6_takeByte_26 : decode cX6_takeByte 26 = .ok (.invokevirtual 50, 3) := by decide +kernel
theorem dX6_takeByte_29 : decode cX6_takeByte 29 = .ok (.return_, 1) := by decide +kernel
theorem dX6_takeSegment_0 : decode cX6_takeSegment 0 = .ok (.aload_n 0, 1) := by decide +kernel
theorem dX6_takeSegment_1 : decode cX6_takeSegment 1 = .ok (.invokevirtual 46, 3) := by decide +kernel
theorem dX6_takeSegment_4 : decode cX6_takeSegment 4 = .ok (.istore_n 1, 1) := by decide +kernel
theorem dX6_takeSegment_5 : decode cX6_takeSegment 5 = .ok (.aload_n 0, 1) := by decide +kernel
theorem dX6_takeSegment_6 : decode cX6_takeSegment 6 = .ok (.getfield 18, 3) := by decide +kernel
theorem dX6_takeSegment_9 : decode cX6_takeSegment 9 = .ok (.getfield 53, 3) := by decide +kernel
theorem dX6_takeSegment_12 : decode cX6_takeSegment 12 = .ok (.bipush 12, 2) := by decide +kernel
theorem dX6_takeSegment_14 : decode cX6_takeSegment 14 = .ok (.if_icmp .lt 7, 3) := by decide +kernel
theorem dX6_takeSegment_17 : decode cX6_takeSegment 17 = .ok (.iconst 1, 1) := by decide +kernel
theorem dX6_takeSegment_18 : decode cX6_takeSegment 18 = .ok (.goto 4, 3) := by decide +kernel
theorem dX6_takeSegment_21 : decode cX6_takeSegment 21 = .ok (.iconst 0, 1) := by decide +kernel
theorem dX6_takeSegment_22 : decode cX6_takeSegment 22 = .ok (.istore_n 2, 1) := by decide +kernel
theorem dX6_takeSegment_23 : decode cX6_takeSegment 23 = .ok (.aload_n 0, 1) := by decide +kernel
theorem dX6_takeSegment_24 : decode cX6_takeSegment 24 = .ok (.getfield 18, 3) := by decide +kernel
theorem dX6_takeSegment_27 : decode cX6_takeSegment 27 = .ok (.getfield 56, 3) := by decide +kernel
theorem dX6_takeSegment_30 : decode cX6_takeSegment 30 = .ok (.ifCond .eq 14, 3) := by decide +kernel
theorem dX6_takeSegment_33 : decode cX6_takeSegment 33 = .ok (.aload_n 0, 1) := by decide +kernel
theorem dX6_takeSegment_34 : decode cX6_takeSegment 34 = .ok (.aload_n 0, 1) := by decide +kernel
theorem dX6_takeSegment_35 : decode cX6_takeSegment 35 = .ok (.getfield 26, 3) := by decide +kernel
theorem dX6_takeSegment_38 : decode cX6_takeSegment 38 = .ok (.invokevirtual 50, 3) := by decide +kernel
theorem dX6_takeSegment_41 : decode cX6_takeSegment 41 = .ok (.goto 103, 3) := by decide +kernel
theorem dX6_takeSegment_44 : decode cX6_takeSegment 44 = .ok (.iload_n 1, 1) := by decide +kernel
theorem dX6_takeSegment_45 : decode cX6_takeSegment 45 = .ok (.bipush 76, 2) := by decide +kernel
theorem dX6_takeSegment_47 : decode cX6_takeSegment 47 = .ok (.if_icmp .ne 24, 3) := by decide +kernel
theorem dX6_takeSegment_50 : decode cX6_takeSegment 50 = .ok (.iload_n 2, 1) := by decide +kernel
theorem dX6_takeSegment_51 : decode cX6_takeSegment 51 = .ok (.ifCond .ne 20, 3) := by decide +kernel
theorem dX6_takeSegment_54 : decode cX6_takeSegment 54 = .ok (.aload_n 0, 1) := by decide +kernel
theorem dX6_takeSegment_55 : decode cX6_takeSegment 55 = .ok (.dup, 1) := by decide +kernel
theorem dX6_takeSegment_56 : decode cX6_takeSegment 56 = .ok (.getfield 26, 3) := by decide +kernel
theorem dX6_takeSegment_59 : decode cX6_takeSegment 59 = .ok (.iconst 1, 1) := by decide +kernel
theorem dX6_takeSegment_60 : decode cX6_takeSegment 60 = .ok (.iadd, 1) := by decide +kernel
theorem dX6_takeSegment_61 : decode cX6_takeSegment 61 = .ok (.putfield 26, 3) := by decide +kernel
theorem dX6_takeSegment_64 : decode cX6_takeSegment 64 = .ok (.aload_n 0, 1) := by decide +kernel
theorem dX6_takeSegment_65 : decode cX6_takeSegment 65 = .ok (.invokevirtual 40, 3) := by decide +kernel
theorem dX6_takeSegment_68 : decode cX6_takeSegment 68 = .ok (.goto 76, 3) := by decide +kernel
theorem dX6_takeSegment_71 : decode cX6_takeSegment 71 = .ok (.iload_n 1, 1) := by decide +kernel
theorem dX6_takeSegment_72 : decode cX6_takeSegment 72 = .ok (.bipush 67, 2) := by decide +kernel
theorem dX6_takeSegment_74 : decode cX6_takeSegment 74 = .ok (.if_icmp .ne 24, 3) := by decide +kernel
theorem dX6_takeSegment_77 : decode cX6_takeSegment 77 = .ok (.iload_n 2, 1) := by decide +kernel
theorem dX6_takeSegment_78 : decode cX6_takeSegment 78 = .ok (.ifCond .ne 20, 3) := by decide +kernel
theorem dX6_takeSegment_81 : decode cX6_takeSegment 81 = .ok (.aload_n 0, 1) := by decide +kernel
theorem dX6_takeSegment_82 : decode cX6_takeSegment 82 = .ok (.dup, 1) := by decide +kernel
theorem dX6_takeSegment_83 : decode cX6_takeSegment 83 = .ok (.getfield 26, 3) := by decide +kernel
theorem dX6_takeSegment_86 : decode cX6_takeSegment 86 = .ok (.iconst 1, 1) := by decide +kernel
theorem dX6_takeSegment_87 : decode cX6_takeSegment 87 = .ok (.iadd, 1) := by decide +kernel
theorem dX6_takeSegment_88 : decode cX6_takeSegment 88 = .ok (.putfield 26, 3) := by decide +kernel
theorem dX6_takeSegment_91 : decode cX6_takeSegment 91 = .ok (.aload_n 0, 1) := by decide +kernel
theorem dX6_takeSegment_92 : decode cX6_takeSegment 92 = .ok (.invokevirtual 60, 3) := by decide +kernel
theorem dX6_takeSegment_95 : decode cX6_takeSegment 95 = .ok (.goto 49, 3) := by decide +kernel
theorem dX6_takeSegment_98 : decode cX6_takeSegment 98 = .ok (.iload_n 1, 1) := by decide +kernel
theorem dX6_takeSegment_99 : decode cX6_takeSegment 99 = .ok (.bipush 90, 2) := by decide +kernel
theorem dX6_takeSegment_101 : decode cX6_takeSegment 101 = .ok (.if_icmp .ne 35, 3) := by decide +kernel
theorem dX6_takeSegment_104 : decode cX6_takeSegment 104 = .ok (.aload_n 0, 1) := by decide +kernel
theorem dX6_takeSegment_105 : decode cX6_takeSegment 105 = .ok (.getfield 18, 3) := by decide +kernel
theorem dX6_takeSegment_108 : decode cX6_takeSegment 108 = .ok (.getfield 53, 3) := by decide +kernel
theorem dX6_takeSegment_111 : decode cX6_takeSegment 111 = .ok (.iconst 2, 1) := by decide +kernel
theorem dX6_takeSegment_112 : decode cX6_takeSegment 112 = .ok (.if_icmp .lt 24, 3) := by decide +kernel
theorem dX6_takeSegment_115 : decode cX6_takeSegment 115 = .ok (.aload_n 0, 1) := by decide +kernel
theorem dX6_takeSegment_116 : decode cX6_takeSegment 116 = .ok (.dup, 1) := by decide +kernel
theorem dX6_takeSegment_117 : decode cX6_takeSegment 117 = .ok (.getfield 26, 3) := by decide +kernel
theorem dX6_takeSegment_120 : decode cX6_takeSegment 120 = .ok (.iconst 1, 1) := by decide +kernel
theorem dX6_takeSegment_121 : decode cX6_takeSegment 121 = .ok (.iadd, 1) := by decide +kernel
theorem dX6_takeSegment_122 : decode cX6_takeSegment 122 = .ok (.putfield 26, 3) := by decide +kernel
theorem dX6_takeSegment_125 : decode cX6_takeSegment 125 = .ok (.aload_n 0, 1) := by decide +kernel
theorem dX6_takeSegment_126 : decode cX6_takeSegment 126 = .ok (.getfield 18, 3) := by decide +kernel
theorem dX6_takeSegment_129 : decode cX6_takeSegment 129 = .ok (.iconst 1, 1) := by decide +kernel
theorem dX6_takeSegment_130 : decode cX6_takeSegment 130 = .ok (.putfield 56, 3) := by decide +kernel
theorem dX6_takeSegment_133 : decode cX6_takeSegment 133 = .ok (.goto 11, 3) := by decide +kernel
theorem dX6_takeSegment_136 : decode cX6_takeSegment 136 = .ok (.aload_n 0, 1) := by decide +kernel
theorem dX6_takeSegment_137 : decode cX6_takeSegment 137 = .ok (.aload_n 0, 1) := by decide +kernel
theorem dX6_takeSegment_138 : decode cX6_takeSegment 138 = .ok (.getfield 26, 3) := by decide +kernel
theorem dX6_takeSegment_141 : decode cX6_takeSegment 141 = .ok (.invokevirtual 50, 3) := by decide +kernel
theorem dX6_takeSegment_144 : decode cX6_takeSegment 144 = .ok (.return_, 1) := by decide +kernel
theorem dX6_takeCurve_0 : decode cX6_takeCurve 0 = .ok (.aload_n 0, 1) := by decide +kernel
theorem dX6_takeCurve_1 : decode cX6_takeCurve 1 = .ok (.getfield 18, 3) := by decide +kernel
theorem dX6_takeCurve_4 : decode cX6_takeCurve 4 = .ok (.getfield 53, 3) := by decide +kernel
theorem dX6_takeCurve_7 : decode cX6_takeCurve 7 = .ok (.iconst 1, 1) := by decide +kernel
theorem dX6_takeCurve_8 : decode cX6_takeCurve 8 = .ok (.isub, 1) := by decide +kernel
theorem dX6_takeCurve_9 : decode cX6_takeCurve 9 = .ok (.istore_n 1, 1) := by decide +kernel
theorem dX6_takeCurve_10 : decode cX6_takeCurve 10 = .ok (.aload_n 0, 1) := by decide +kernel
theorem dX6_takeCurve_11 : decode cX6_takeCurve 11 = .ok (.aload_n 0, 1) := by decide +kernel
theorem dX6_takeCurve_12 : decode cX6_takeCurve 12 = .ok (.getfield 63, 3) := by decide +kernel
theorem dX6_takeCurve_15 : decode cX6_takeCurve 15 = .ok (.invokevirtual 66, 3) := by decide +kernel
theorem dX6_takeCurve_18 : decode cX6_takeCurve 18 = .ok (.aload_n 0, 1) := by decide +kernel
theorem dX6_takeCurve_19 : decode cX6_takeCurve 19 = .ok (.getfield 63, 3) := by decide +kernel
theorem dX6_takeCurve_22 : decode cX6_takeCurve 22 = .ok (.isub, 1) := by decide +kernel
theorem dX6_takeCurve_23 : decode cX6_takeCurve 23 = .ok (.istore_n 2, 1) := by decide +kernel
theorem dX6_takeCurve_24 : decode cX6_takeCurve 24 = .ok (.aload_n 0, 1) := by decide +kernel
theorem dX6_takeCurve_25 : decode cX6_takeCurve 25 = .ok (.bipush 32, 2) := by decide +kernel
theorem dX6_takeCurve_27 : decode cX6_takeCurve 27 = .ok (.invokevirtual 36, 3) := by decide +kernel
theorem dX6_takeCurve_30 : decode cX6_takeCurve 30 = .ok (.aload_n 0, 1) := by decide +kernel
theorem dX6_takeCurve_31 : decode cX6_takeCurve 31 = .ok (.aload_n 0, 1) := by decide +kernel
theorem dX6_takeCurve_32 : decode cX6_takeCurve 32 = .ok (.getfield 70, 3) := by decide +kernel
theorem dX6_takeCurve_35 : decode cX6_takeCurve 35 = .ok (.invokevirtual 66, 3) := by decide +kernel
theorem dX6_takeCurve_38 : decode cX6_takeCurve 38 = .ok (.aload_n 0, 1) := by decide +kernel
theorem dX6_takeCurve_39 : decode cX6_takeCurve 39 = .ok (.getfield 70, 3) := by decide +kernel
theorem dX6_takeCurve_42 : decode cX6_takeCurve 42 = .ok (.isub, 1) := by decide +kernel
theorem dX6_takeCurve_43 : decode cX6_takeCurve 43 = .ok (.istore_n 3, 1) := by decide +kernel
theorem dX6_takeCurve_44 : decode cX6_takeCurve 44 = .ok (.aload_n 0, 1) := by decide +kernel
theorem dX6_takeCurve_45 : decode cX6_takeCurve 45 = .ok (.bipush 32, 2) := by decide +kernel
theorem dX6_takeCurve_47 : decode cX6_takeCurve 47 = .ok (.invokevirtual 36, 3) := by decide +kernel
theorem dX6_takeCurve_50 : decode cX6_takeCurve 50 = .ok (.aload_n 0, 1) := by decide +kernel
theorem dX6_takeCurve_51 : decode cX6_takeCurve 51 = .ok (.iconst 0, 1) := by decide +kernel
theorem dX6_takeCurve_52 : decode cX6_takeCurve 52 = .ok (.invokevirtual 66, 3) := by decide +kernel
theorem dX6_takeCurve_55 : decode cX6_takeCurve 55 = .ok (.istore 4, 2) := by decide +kernel
theorem dX6_takeCurve_57 : decode cX6_takeCurve 57 = .ok (.aload_n 0, 1) := by decide +kernel
theorem dX6_takeCurve_58 : decode cX6_takeCurve 58 = .ok (.bipush 32, 2) := by decide +kernel
theorem dX6_takeCurve_60 : decode cX6_takeCurve 60 = .ok (.invokevirtual 36, 3) := by decide +kernel
theorem dX6_takeCurve_63 : decode cX6_takeCurve 63 = .ok (.aload_n 0, 1) := by decide +kernel
theorem dX6_takeCurve_64 : decode cX6_takeCurve 64 = .ok (.iconst 0, 1) := by decide +kernel
theorem dX6_takeCurve_65 : decode cX6_takeCurve 65 = .ok (.invokevirtual 66, 3) := by decide +kernel
theorem dX6_takeCurve_68 : decode cX6_takeCurve 68 = .ok (.istore 5, 2) := by decide +kernel
theorem dX6_takeCurve_70 : decode cX6_takeCurve 70 = .ok (.aload_n 0, 1) := by decide +kernel
theorem dX6_takeCurve_71 : decode cX6_takeCurve 71 = .ok (.bipush 32, 2) := by decide +kernel
theorem dX6_takeCurve_73 : decode cX6_takeCurve 73 = .ok (.invokevirtual 36, 3) := by decide +kernel
theorem dX6_takeCurve_76 : decode cX6_takeCurve 76 = .ok (.aload_n 0, 1) := by decide +kernel
theorem dX6_takeCurve_77 : decode cX6_takeCurve 77 = .ok (.aload_n 0, 1) := by decide +kernel
theorem dX6_takeCurve_78 : decode cX6_takeCurve 78 = .ok (.iload 4, 2) := by decide +kernel
theorem dX6_takeCurve_80 : decode cX6_takeCurve 80 = .ok (.invokevirtual 66, 3) := by decide +kernel
theorem dX6_takeCurve_83 : decode cX6_takeCurve 83 = .ok (.putfield 63, 3) := by decide +kernel
theorem dX6_takeCurve_86 : decode cX6_takeCurve 86 = .ok (.aload_n 0, 1) := by decide +kernel
theorem dX6_takeCurve_87 : decode cX6_takeCurve 87 = .ok (.bipush 32, 2) := by decide +kernel
theorem dX6_takeCurve_89 : decode cX6_takeCurve 89 = .ok (.invokevirtual 36, 3) := by decide +kernel
theorem dX6_takeCurve_92 : decode cX6_takeCurve 92 = .ok (.aload_n 0, 1) := by decide +kernel
theorem dX6_takeCurve_93 : decode cX6_takeCurve 93 = .ok (.aload_n 0, 1) := by decide +kernel
theorem dX6_takeCurve_94 : decode cX6_takeCurve 94 = .ok (.iload 5, 2) := by decide +kernel
theorem dX6_takeCurve_96 : decode cX6_takeCurve 96 = .ok (.invokevirtual 66, 3) := by decide +kernel
theorem dX6_takeCurve_99 : decode cX6_takeCurve 99 = .ok (.putfield 70, 3) := by decide +kernel
theorem dX6_takeCurve_102 : decode cX6_takeCurve 102 = .ok (.aload_n 0, 1) := by decide +kernel
theorem dX6_takeCurve_103 : decode cX6_takeCurve 103 = .ok (.getfield 18, 3) := by decide +kernel
theorem dX6_takeCurve_106 : decode cX6_takeCurve 106 = .ok (.aload_n 0, 1) := by decide +kernel
theorem dX6_takeCurve_107 : decode cX6_takeCurve 107 = .ok (.getfield 63, 3) := by decide +kernel
theorem dX6_takeCurve_110 : decode cX6_takeCurve 110 = .ok (.ldc 73, 2) := by decide +kernel
theorem dX6_takeCurve_112 : decode cX6_takeCurve 112 = .ok (.imul, 1) := by decide +kernel
theorem dX6_takeCurve_113 : decode cX6_takeCurve 113 = .ok (.aload_n 0, 1) := by decide +kernel
theorem dX6_takeCurve_114 : decode cX6_takeCurve 114 = .ok (.getfield 70, 3) := by decide +kernel
theorem dX6_takeCurve_117 : decode cX6_takeCurve 117 = .ok (.ldc 73, 2) := by decide +kernel
theorem dX6_takeCurve_119 : decode cX6_takeCurve 119 = .ok (.imul, 1) := by decide +kernel
theorem dX6_takeCurve_120 : decode cX6_takeCurve 120 = .ok (.invokevirtual 74, 3) := by decide +kernel
theorem dX6_takeCurve_123 : decode cX6_takeCurve 123 = .ok (.aload_n 0, 1) := by decide +kernel
theorem dX6_takeCurve_124 : decode cX6_takeCurve 124 = .ok (.getfield 18, 3) := by decide +kernel
theorem dX6_takeCurve_127 : decode cX6_takeCurve 127 = .ok (.iload_n 1, 1) := by decide +kernel
theorem dX6_takeCurve_128 : decode cX6_takeCurve 128 = .ok (.iconst 4, 1) := by decide +kernel
theorem dX6_takeCurve_129 : decode cX6_takeCurve 129 = .ok (.iload_n 2, 1) := by decide +kernel
theorem dX6_takeCurve_130 : decode cX6_takeCurve 130 = .ok (.ldc 73, 2) := by decide +kernel
theorem dX6_takeCurve_132 : decode cX6_takeCurve 132 = .ok (.imul, 1) := by decide +kernel
theorem dX6_takeCurve_133 : decode cX6_takeCurve 133 = .ok (.invokevirtual 78, 3) := by decide +kernel
theorem dX6_takeCurve_136 : decode cX6_takeCurve 136 = .ok (.aload_n 0, 1) := by decide +kernel
theorem dX6_takeCurve_137 : decode cX6_takeCurve 137 = .ok (.getfield 18, 3) := by decide +kernel
theorem dX6_takeCurve_140 : decode cX6_takeCurve 140 = .ok (.iload_n 1, 1) := by decide +kernel
theorem dX6_takeCurve_141 : decode cX6_takeCurve 141 = .ok (.iconst 5, 1) := by decide +kernel
theorem dX6_takeCurve_142 : decode cX6_takeCurve 142 = .ok (.iload_n 3, 1) := by decide +kernel
theorem dX6_takeCurve_143 : decode cX6_takeCurve 143 = .ok (.ldc 73, 2) := by decide +kernel
theorem dX6_takeCurve_145 : decode cX6_takeCurve 145 = .ok (.imul, 1) := by decide +kernel
theorem dX6_takeCurve_146 : decode cX6_takeCurve 146 = .ok (.invokevirtual 78, 3) := by decide +kernel
theorem dX6_takeCurve_149 : decode cX6_takeCurve 149 = .ok (.aload_n 0, 1) := by decide +kernel
theorem dX6_takeCurve_150 : decode cX6_takeCurve 150 = .ok (.getfield 18, 3) := by decide +kernel
theorem dX6_takeCurve_153 : decode cX6_takeCurve 153 = .ok (.iload_n 1, 1) := by decide +kernel
theorem dX6_takeCurve_154 : decode cX6_takeCurve 154 = .ok (.iconst 1, 1) := by decide +kernel
theorem dX6_takeCurve_155 : decode cX6_takeCurve 155 = .ok (.iadd, 1) := by decide +kernel
theorem dX6_takeCurve_156 : decode cX6_takeCurve 156 = .ok (.iconst 2, 1) := by decide +kernel
theorem dX6_takeCurve_157 : decode cX6_takeCurve 157 = .ok (.iload 4, 2) := by decide +kernel
theorem dX6_takeCurve_159 : decode cX6_takeCurve 159 = .ok (.aload_n 0, 1) := by decide +kernel
theorem dX6_takeCurve_160 : decode cX6_takeCurve 160 = .ok (.getfield 63, 3) := by decide +kernel
theorem dX6_takeCurve_163 : decode cX6_takeCurve 163 = .ok (.isub, 1) := by decide +kernel
theorem dX6_takeCurve_164 : decode cX6_takeCurve 164 = .ok (.ldc 73, 2) := by decide +kernel
theorem dX6_takeCurve_166 : decode cX6_takeCurve 166 = .ok (.imul, 1) := by decide +kernel
