theorem dX8_setHandle_89 : decode cX8_setHandle 89 = .ok (.aload_n 0, 1) := by decide +kernel
theorem dX8_setHandle_90 : decode cX8_setHandle 90 = .ok (.iload_n 1, 1) := by decide +kernel
theorem dX8_setHandle_91 : decode cX8_setHandle 91 = .ok (.iload_n 2, 1) := by decide +kernel
theorem dX8_setHandle_92 : decode cX8_setHandle 92 = .ok (.iload_n 3, 1) := by decide +kernel
theorem dX8_setHandle_93 : decode cX8_setHandle 93 = .ok (.invokevirtual 138, 3) := by decide +kernel
theorem dX8_setHandle_96 : decode cX8_setHandle 96 = .ok (.aload_n 0, 1) := by decide +kernel
theorem dX8_setHandle_97 : decode cX8_setHandle 97 = .ok (.getfield 84, 3) := by decide +kernel
theorem dX8_setHandle_100 : decode cX8_setHandle 100 = .ok (.ifCond .ge 14, 3) := by decide +kernel
theorem dX8_setHandle_103 : decode cX8_setHandle 103 = .ok (.aload_n 0, 1) := by decide +kernel
theorem dX8_setHandle_104 : decode cX8_setHandle 104 = .ok (.aload_n 0, 1) := by decide +kernel
theorem dX8_setHandle_105 : decode cX8_setHandle 105 = .ok (.getfield 84, 3) := by decide +kernel
theorem dX8_setHandle_108 : decode cX8_setHandle 108 = .ok (.invokevirtual 132, 3) := by decide +kernel
theorem dX8_setHandle_111 : decode cX8_setHandle 111 = .ok (.goto 17, 3) := by decide +kernel
theorem dX8_setHandle_114 : decode cX8_setHandle 114 = .ok (.aload_n 0, 1) := by decide +kernel
theorem dX8_setHandle_115 : decode cX8_setHandle 115 = .ok (.iload 7, 2) := by decide +kernel
theorem dX8_setHandle_117 : decode cX8_setHandle 117 = .ok (.ifCond .eq 7, 3) := by decide +kernel
theorem dX8_setHandle_120 : decode cX8_setHandle 120 = .ok (.iconst 1, 1) := by decide +kernel
theorem dX8_setHandle_121 : decode cX8_setHandle 121 = .ok (.goto 4, 3) := by decide +kernel
theorem dX8_setHandle_124 : decode cX8_setHandle 124 = .ok (.iconst 0, 1) := by decide +kernel
theorem dX8_setHandle_125 : decode cX8_setHandle 125 = .ok (.invokevirtual 118, 3) := by decide +kernel
theorem dX8_setHandle_128 : decode cX8_setHandle 128 = .ok (.ireturn, 1) := by decide +kernel
theorem dX8_setSmooth_0 : decode cX8_setSmooth 0 = .ok (.aload_n 0, 1) := by decide +kernel
theorem dX8_setSmooth_1 : decode cX8_setSmooth 1 = .ok (.iload_n 1, 1) := by decide +kernel
theorem dX8_setSmooth_2 : decode cX8_setSmooth 2 = .ok (.iload_n 2, 1) := by decide +kernel
theorem dX8_setSmooth_3 : decode cX8_setSmooth 3 = .ok (.invokevirtual 127, 3) := by decide +kernel
theorem dX8_setSmooth_6 : decode cX8_setSmooth 6 = .ok (.ifCond .ne 6, 3) := by decide +kernel
theorem dX8_setSmooth_9 : decode cX8_setSmooth 9 = .ok (.ldc 121, 2) := by decide +kernel
theorem dX8_setSmooth_11 : decode cX8_setSmooth 11 = .ok (.ireturn, 1) := by decide +kernel
theorem dX8_setSmooth_12 : decode cX8_setSmooth 12 = .ok (.iload_n 3, 1) := by decide +kernel
theorem dX8_setSmooth_13 : decode cX8_setSmooth 13 = .ok (.iconst 1, 1) := by decide +kernel
theorem dX8_setSmooth_14 : decode cX8_setSmooth 14 = .ok (.sipush 999, 3) := by decide +kernel
theorem dX8_setSmooth_17 : decode cX8_setSmooth 17 = .ok (.invokestatic 47, 3) := by decide +kernel
theorem dX8_setSmooth_20 : decode cX8_setSmooth 20 = .ok (.ifCond .eq 15, 3) := by decide +kernel
theorem dX8_setSmooth_23 : decode cX8_setSmooth 23 = .ok (.iload 4, 2) := by decide +kernel
theorem dX8_setSmooth_25 : decode cX8_setSmooth 25 = .ok (.iconst 1, 1) := by decide +kernel
theorem dX8_setSmooth_26 : decode cX8_setSmooth 26 = .ok (.sipush 999, 3) := by decide +kernel
theorem dX8_setSmooth_29 : decode cX8_setSmooth 29 = .ok (.invokestatic 47, 3) := by decide +kernel
theorem dX8_setSmooth_32 : decode cX8_setSmooth 32 = .ok (.ifCond .ne 6, 3) := by decide +kernel
theorem dX8_setSmooth_35 : decode cX8_setSmooth 35 = .ok (.ldc 108, 2) := by decide +kernel
theorem dX8_setSmooth_37 : decode cX8_setSmooth 37 = .ok (.ireturn, 1) := by decide +kernel
theorem dX8_setSmooth_38 : decode cX8_setSmooth 38 = .ok (.aload_n 0, 1) := by decide +kernel
theorem dX8_setSmooth_39 : decode cX8_setSmooth 39 = .ok (.invokevirtual 110, 3) := by decide +kernel
theorem dX8_setSmooth_42 : decode cX8_setSmooth 42 = .ok (.aload_n 0, 1) := by decide +kernel
theorem dX8_setSmooth_43 : decode cX8_setSmooth 43 = .ok (.iconst 0, 1) := by decide +kernel
theorem dX8_setSmooth_44 : decode cX8_setSmooth 44 = .ok (.putfield 84, 3) := by decide +kernel
theorem dX8_setSmooth_47 : decode cX8_setSmooth 47 = .ok (.aload_n 0, 1) := by decide +kernel
theorem dX8_setSmooth_48 : decode cX8_setSmooth 48 = .ok (.iload_n 1, 1) := by decide +kernel
theorem dX8_setSmooth_49 : decode cX8_setSmooth 49 = .ok (.iload_n 2, 1) := by decide +kernel
theorem dX8_setSmooth_50 : decode cX8_setSmooth 50 = .ok (.invokevirtual 135, 3) := by decide +kernel
theorem dX8_setSmooth_53 : decode cX8_setSmooth 53 = .ok (.ifCond .eq 7, 3) := by decide +kernel
theorem dX8_setSmooth_56 : decode cX8_setSmooth 56 = .ok (.iconst 1, 1) := by decide +kernel
theorem dX8_setSmooth_57 : decode cX8_setSmooth 57 = .ok (.goto 4, 3) := by decide +kernel
theorem dX8_setSmooth_60 : decode cX8_setSmooth 60 = .ok (.iconst 0, 1) := by decide +kernel
theorem dX8_setSmooth_61 : decode cX8_setSmooth 61 = .ok (.istore 5, 2) := by decide +kernel
theorem dX8_setSmooth_63 : decode cX8_setSmooth 63 = .ok (.aload_n 0, 1) := by decide +kernel
theorem dX8_setSmooth_64 : decode cX8_setSmooth 64 = .ok (.iload_n 1, 1) := by decide +kernel
theorem dX8_setSmooth_65 : decode cX8_setSmooth 65 = .ok (.iload_n 2, 1) := by decide +kernel
theorem dX8_setSmooth_66 : decode cX8_setSmooth 66 = .ok (.iload_n 3, 1) := by decide +kernel
theorem dX8_setSmooth_67 : decode cX8_setSmooth 67 = .ok (.iload 4, 2) := by decide +kernel
theorem dX8_setSmooth_69 : decode cX8_setSmooth 69 = .ok (.invokevirtual 142, 3) := by decide +kernel
theorem dX8_setSmooth_72 : decode cX8_setSmooth 72 = .ok (.aload_n 0, 1) := by decide +kernel
theorem dX8_setSmooth_73 : decode cX8_setSmooth 73 = .ok (.getfield 7, 3) := by decide +kernel
theorem dX8_setSmooth_76 : decode cX8_setSmooth 76 = .ok (.iload_n 1, 1) := by decide +kernel
theorem dX8_setSmooth_77 : decode cX8_setSmooth 77 = .ok (.iload_n 2, 1) := by decide +kernel
theorem dX8_setSmooth_78 : decode cX8_setSmooth 78 = .ok (.iconst 4, 1) := by decide +kernel
theorem dX8_setSmooth_79 : decode cX8_setSmooth 79 = .ok (.invokestatic 92, 3) := by decide +kernel
theorem dX8_setSmooth_82 : decode cX8_setSmooth 82 = .ok (.iaload, 1) := by decide +kernel
theorem dX8_setSmooth_83 : decode cX8_setSmooth 83 = .ok (.ifCond .ne 17, 3) := by decide +kernel
theorem dX8_setSmooth_86 : decode cX8_setSmooth 86 = .ok (.aload_n 0, 1) := by decide +kernel
theorem dX8_setSmooth_87 : decode cX8_setSmooth 87 = .ok (.getfield 7, 3) := by decide +kernel
theorem dX8_setSmooth_90 : decode cX8_setSmooth 90 = .ok (.iload_n 1, 1) := by decide +kernel
theorem dX8_setSmooth_91 : decode cX8_setSmooth 91 = .ok (.iload_n 2, 1) := by decide +kernel
theorem dX8_setSmooth_92 : decode cX8_setSmooth 92 = .ok (.iconst 5, 1) := by decide +kernel
theorem dX8_setSmooth_93 : decode cX8_setSmooth 93 = .ok (.invokestatic 92, 3) := by decide +kernel
theorem dX8_setSmooth_96 : decode cX8_setSmooth 96 = .ok (.iaload, 1) := by decide +kernel
theorem dX8_setSmooth_97 : decode cX8_setSmooth 97 = .ok (.ifCond .eq 7, 3) := by decide +kernel
theorem dX8_setSmooth_100 : decode cX8_setSmooth 100 = .ok (.iconst 1, 1) := by decide +kernel
theorem dX8_setSmooth_101 : decode cX8_setSmooth 101 = .ok (.goto 4, 3) := by decide +kernel
theorem dX8_setSmooth_104 : decode cX8_setSmooth 104 = .ok (.iconst 0, 1) := by decide +kernel
theorem dX8_setSmooth_105 : decode cX8_setSmooth 105 = .ok (.istore 6, 2) := by decide +kernel
theorem dX8_setSmooth_107 : decode cX8_setSmooth 107 = .ok (.aload_n 0, 1) := by decide +kernel
theorem dX8_setSmooth_108 : decode cX8_setSmooth 108 = .ok (.iload_n 1, 1) := by decide +kernel
theorem dX8_setSmooth_109 : decode cX8_setSmooth 109 = .ok (.iload_n 2, 1) := by decide +kernel
theorem dX8_setSmooth_110 : decode cX8_setSmooth 110 = .ok (.iload 6, 2) := by decide +kernel
theorem dX8_setSmooth_112 : decode cX8_setSmooth 112 = .ok (.invokevirtual 138, 3) := by decide +kernel
theorem dX8_setSmooth_115 : decode cX8_setSmooth 115 = .ok (.aload_n 0, 1) := by decide +kernel
theorem dX8_setSmooth_116 : decode cX8_setSmooth 116 = .ok (.getfield 84, 3) := by decide +kernel
theorem dX8_setSmooth_119 : decode cX8_setSmooth 119 = .ok (.ifCond .ge 14, 3) := by decide +kernel
theorem dX8_setSmooth_122 : decode cX8_setSmooth 122 = .ok (.aload_n 0, 1) := by decide +kernel
theorem dX8_setSmooth_123 : decode cX8_setSmooth 123 = .ok (.aload_n 0, 1) := by decide +kernel
theorem dX8_setSmooth_124 : decode cX8_setSmooth 124 = .ok (.getfield 84, 3) := by decide +kernel
theorem dX8_setSmooth_127 : decode cX8_setSmooth 127 = .ok (.invokevirtual 132, 3) := by decide +kernel
theorem dX8_setSmooth_130 : decode cX8_setSmooth 130 = .ok (.goto 9, 3) := by decide +kernel
theorem dX8_setSmooth_133 : decode cX8_setSmooth 133 = .ok (.aload_n 0, 1) := by decide +kernel
theorem dX8_setSmooth_134 : decode cX8_setSmooth 134 = .ok (.iload 5, 2) := by decide +kernel
theorem dX8_setSmooth_136 : decode cX8_setSmooth 136 = .ok (.invokevirtual 118, 3) := by decide +kernel
theorem dX8_setSmooth_139 : decode cX8_setSmooth 139 = .ok (.ireturn, 1) := by decide +kernel
theorem dX8_setCorner_0 : decode cX8_setCorner 0 = .ok (.aload_n 0, 1) := by decide +kernel
theorem dX8_setCorner_1 : decode cX8_setCorner 1 = .ok (.iload_n 1, 1) := by decide +kernel
theorem dX8_setCorner_2 : decode cX8_setCorner 2 = .ok (.iload_n 2, 1) := by decide +kernel
theorem dX8_setCorner_3 : decode cX8_setCorner 3 = .ok (.invokevirtual 127, 3) := by decide +kernel
theorem dX8_setCorner_6 : decode cX8_setCorner 6 = .ok (.ifCond .ne 6, 3) := by decide +kernel
theorem dX8_setCorner_9 : decode cX8_setCorner 9 = .ok (.ldc 121, 2) := by decide +kernel
theorem dX8_setCorner_11 : decode cX8_setCorner 11 = .ok (.ireturn, 1) := by decide +kernel
theorem dX8_setCorner_12 : decode cX8_setCorner 12 = .ok (.aload_n 0, 1) := by decide +kernel
theorem dX8_setCorner_13 : decode cX8_setCorner 13 = .ok (.invokevirtual 110, 3) := by decide +kernel
theorem dX8_setCorner_16 : decode cX8_setCorner 16 = .ok (.aload_n 0, 1) := by decide +kernel
theorem dX8_setCorner_17 : decode cX8_setCorner 17 = .ok (.iload_n 1, 1) := by decide +kernel
theorem dX8_setCorner_18 : decode cX8_setCorner 18 = .ok (.iload_n 2, 1) := by decide +kernel
theorem dX8_setCorner_19 : decode cX8_setCorner 19 = .ok (.invokevirtual 135, 3) := by decide +kernel
theorem dX8_setCorner_22 : decode cX8_setCorner 22 = .ok (.ifCond .eq 7, 3) := by decide +kernel
theorem dX8_setCorner_25 : decode cX8_setCorner 25 = .ok (.iconst 1, 1) := by decide +kernel
theorem dX8_setCorner_26 : decode cX8_setCorner 26 = .ok (.goto 4, 3) := by decide +kernel
theorem dX8_setCorner_29 : decode cX8_setCorner 29 = .ok (.iconst 0, 1) := by decide +kernel
theorem dX8_setCorner_30 : decode cX8_setCorner 30 = .ok (.istore_n 3, 1) := by decide +kernel
theorem dX8_setCorner_31 : decode cX8_setCorner 31 = .ok (.aload_n 0, 1) := by decide +kernel
theorem dX8_setCorner_32 : decode cX8_setCorner 32 = .ok (.getfield 7, 3) := by decide +kernel
theorem dX8_setCorner_35 : decode cX8_setCorner 35 = .ok (.iload_n 1, 1) := by decide +kernel
theorem dX8_setCorner_36 : decode cX8_setCorner 36 = .ok (.iload_n 2, 1) := by decide +kernel
theorem dX8_setCorner_37 : decode cX8_setCorner 37 = .ok (.bipush 6, 2) := by decide +kernel
theorem dX8_setCorner_39 : decode cX8_setCorner 39 = .ok (.invokestatic 92, 3) := by decide +kernel
theorem dX8_setCorner_42 : decode cX8_setCorner 42 = .ok (.iconst 0, 1) := by decide +kernel
theorem dX8_setCorner_43 : decode cX8_setCorner 43 = .ok (.iastore, 1) := by decide +kernel
theorem dX8_setCorner_44 : decode cX8_setCorner 44 = .ok (.aload_n 0, 1) := by decide +kernel
theorem dX8_setCorner_45 : decode cX8_setCorner 45 = .ok (.getfield 7, 3) := by decide +kernel
theorem dX8_setCorner_48 : decode cX8_setCorner 48 = .ok (.iload_n 1, 1) := by decide +kernel
theorem dX8_setCorner_49 : decode cX8_setCorner 49 = .ok (.iload_n 2, 1) := by decide +kernel
theorem dX8_setCorner_50 : decode cX8_setCorner 50 = .ok (.bipush 7, 2) := by decide +kernel
theorem dX8_setCorner_52 : decode cX8_setCorner 52 = .ok (.invokestatic 92, 3) := by decide +kernel
theorem dX8_setCorner_55 : decode cX8_setCorner 55 = .ok (.iconst 0, 1) := by decide +kernel
theorem dX8_setCorner_56 : decode cX8_setCorner 56 = .ok (.iastore, 1) := by decide +kernel
theorem dX8_setCorner_57 : decode cX8_setCorner 57 = .ok (.aload_n 0, 1) := by decide +kernel
theorem dX8_setCorner_58 : decode cX8_setCorner 58 = .ok (.iload_n 3, 1) := by decide +kernel
theorem dX8_setCorner_59 : decode cX8_setCorner 59 = .ok (.invokevirtual 118, 3) := by decide +kernel
theorem dX8_setCorner_62 : decode cX8_setCorner 62 = .ok (.ireturn, 1) := by decide +kernel
theorem dX8_controls_0 : decode cX8_controls 0 = .ok (.iload_n 2, 1) := by decide +kernel
theorem dX8_controls_1 : decode cX8_controls 1 = .ok (.iconst 1, 1) := by decide +kernel
theorem dX8_controls_2 : decode cX8_controls 2 = .ok (.iadd, 1) := by decide +kernel
theorem dX8_controls_3 : decode cX8_controls 3 = .ok (.aload_n 0, 1) := by decide +kernel
theorem dX8_controls_4 : decode cX8_controls 4 = .ok (.iload_n 1, 1) := by decide +kernel
theorem dX8_controls_5 : decode cX8_controls 5 = .ok (.invokevirtual 59, 3) := by decide +kernel
theorem dX8_controls_8 : decode cX8_controls 8 = .ok (.irem, 1) := by decide +kernel
theorem dX8_controls_9 : decode cX8_controls 9 = .ok (.istore_n 3, 1) := by decide +kernel
theorem dX8_controls_10 : decode cX8_controls 10 = .ok (.iconst 0, 1) := by decide +kernel
theorem dX8_controls_11 : decode cX8_controls 11 = .ok (.istore 4, 2) := by decide +kernel
theorem dX8_controls_13 : decode cX8_controls 13 = .ok (.iload 4, 2) := by decide +kernel
theorem dX8_controls_15 : decode cX8_controls 15 = .ok (.iconst 2, 1) := by decide +kernel
theorem dX8_controls_16 : decode cX8_controls 16 = .ok (.if_icmp .ge 125, 3) := by decide +kernel
theorem dX8_controls_19 : decode cX8_controls 19 = .ok (.aload_n 0, 1) := by decide +kernel
theorem dX8_controls_20 : decode cX8_controls 20 = .ok (.getfield 35, 3) := by decide +kernel
theorem dX8_controls_23 : decode cX8_controls 23 = .ok (.iconst 4, 1) := by decide +kernel
theorem dX8_controls_24 : decode cX8_controls 24 = .ok (.iload 4, 2) := by decide +kernel
theorem dX8_controls_26 : decode cX8_controls 26 = .ok (.imul, 1) := by decide +kernel
theorem dX8_controls_27 : decode cX8_controls 27 = .ok (.aload_n 0, 1) := by decide +kernel
theorem dX8_controls_28 : decode cX8_controls 28 = .ok (.getfield 7, 3) := by decide +kernel
theorem dX8_controls_31 : decode cX8_controls 31 = .ok (.iload_n 1, 1) := by decide +kernel
theorem dX8_controls_32 : decode cX8_controls 32 = .ok (.iload_n 2, 1) := by decide +kernel
theorem dX8_controls_33 : decode cX8_controls 33 = .ok (.iload 4, 2) := by decide +kernel
theorem dX8_controls_35 : decode cX8_controls 35 = .ok (.invokestatic 92, 3) := by decide +kernel
theorem dX8_controls_38 : decode cX8_controls 38 = .ok (.iaload, 1) := by decide +kernel
theorem dX8_controls_39 : decode cX8_controls 39 = .ok (.iastore, 1) := by decide +kernel
theorem dX8_controls_40 : decode cX8_controls 40 = .ok (.aload_n 0, 1) := by decide +kernel
theorem dX8_controls_41 : decode cX8_controls 41 = .ok (.getfield 35, 3) := by decide +kernel
theorem dX8_controls_44 : decode cX8_controls 44 = .ok (.iconst 4, 1) := by decide +kernel
theorem dX8_controls_45 : decode cX8_controls 45 = .ok (.iload 4, 2) := by decide +kernel
theorem dX8_controls_47 : decode cX8_controls 47 = .ok (.imul, 1) := by decide +kernel
theorem dX8_controls_48 : decode cX8_controls 48 = .ok (.iconst 1, 1) := by decide +kernel
theorem dX8_controls_49 : decode cX8_controls 49 = .ok (.iadd, 1) := by decide +kernel
theorem dX8_controls_50 : decode cX8_controls 50 = .ok (.aload_n 0, 1) := by decide +kernel
theorem dX8_controls_51 : decode cX8_controls 51 = .ok (.getfield 35, 3) := by decide +kernel
theorem dX8_controls_54 : decode cX8_controls 54 = .ok (.iconst 4, 1) := by decide +kernel
theorem dX8_controls_55 : decode cX8_controls 55 = .ok (.iload 4, 2) := by decide +kernel
theorem dX8_controls_57 : decode cX8_controls 57 = .ok (.imul, 1) := by decide +kernel
theorem dX8_controls_58 : decode cX8_controls 58 = .ok (.iaload, 1) := by decide +kernel
theorem dX8_controls_59 : decode cX8_controls 59 = .ok (.aload_n 0, 1) := by decide +kernel
theorem dX8_controls_60 : decode cX8_controls 60 = .ok (.getfield 7, 3) := by decide +kernel
theorem dX8_controls_63 : decode cX8_controls 63 = .ok (.iload_n 1, 1) := by decide +kernel
theorem dX8_controls_64 : decode cX8_controls 64 = .ok (.iload_n 2, 1) := by decide +kernel
theorem dX8_controls_65 : decode cX8_controls 65 = .ok (.iconst 4, 1) := by decide +kernel
theorem dX8_controls_66 : decode cX8_controls 66 = .ok (.iload 4, 2) := by decide +kernel
theorem dX8_controls_68 : decode cX8_controls 68 = .ok (.iadd, 1) := by decide +kernel
theorem dX8_controls_69 : decode cX8_controls 69 = .ok (.invokestatic 92, 3) := by decide +kernel
theorem dX8_controls_72 : decode cX8_controls 72 = .ok (.iaload, 1) := by decide +kernel
theorem dX8_controls_73 : decode cX8_controls 73 = .ok (.iadd, 1) := by decide +kernel
theorem dX8_controls_74 : decode cX8_controls 74 = .ok (.iastore, 1) := by decide +kernel
theorem dX8_controls_75 : decode cX8_controls 75 = .ok (.aload_n 0, 1) := by decide +kernel
theorem dX8_controls_76 : decode cX8_controls 76 = .ok (.getfield 35, 3) := by decide +kernel
theorem dX8_controls_79 : decode cX8_controls 79 = .ok (.iconst 4, 1) := by decide +kernel
theorem dX8_controls_80 : decode cX8_controls 80 = .ok (.iload 4, 2) := by decide +kernel
theorem dX8_controls_82 : decode cX8_controls 82 = .ok (.imul, 1) := by decide +kernel
theorem dX8_controls_83 : decode cX8_controls 83 = .ok (.iconst 3, 1) := by decide +kernel
theorem dX8_controls_84 : decode cX8_controls 84 = .ok (.iadd, 1) := by decide +kernel
theorem dX8_controls_85 : decode cX8_controls 85 = .ok (.aload_n 0, 1) := by decide +kernel
theorem dX8_controls_86 : decode cX8_controls 86 = .ok (.getfield 7, 3) := by decide +kernel
theorem dX8_controls_89 : decode cX8_controls 89 = .ok (.iload_n 1, 1) := by decide +kernel
theorem dX8_controls_90 : decode cX8_controls 90 = .ok (.iload_n 3, 1) := by decide +kernel
theorem dX8_controls_91 : decode cX8_controls 91 = .ok (.iload 4, 2) := by decide +kernel
theorem dX8_controls_93 : decode cX8_controls 93 = .ok (.invokestatic 92, 3) := by decide +kernel
theorem dX8_controls_96 : decode cX8_controls 96 = .ok (.iaload, 1) := by decide +kernel
theorem dX8_controls_97 : decode cX8_controls 97 = .ok (.iastore, 1) := by decide +kernel
theorem dX8_controls_98 : decode cX8_controls 98 = .ok (.aload_n 0, 1) := by decide +kernel
theorem dX8_controls_99 : decode cX8_controls 99 = .ok (.getfield 35, 3) := by decide +kernel
theorem dX8_controls_102 : decode cX8_controls 102 = .ok (.iconst 4, 1) := by decide +kernel
theorem dX8_controls_103 : decode cX8_controls 103 = .ok (.iload 4, 2) := by decide +kernel
theorem dX8_controls_105 : decode cX8_controls 105 = .ok (.imul, 1) := by decide +kernel
theorem dX8_controls_106 : decode cX8_controls 106 = .ok (.iconst 2, 1) := by decide +kernel
theorem dX8_controls_107 : decode cX8_controls 107 = .ok (.iadd, 1) := by decide +kernel
theorem dX8_controls_108 : decode cX8_controls 108 = .ok (.aload_n 0, 1) := by decide +kernel
theorem dX8_controls_109 : decode cX8_controls 109 = .ok (.getfield 35, 3) := by decide +kernel
theorem dX8_controls_112 : decode cX8_controls 112 = .ok (.iconst 4, 1) := by decide +kernel
theorem dX8_controls_113 : decode cX8_controls 113 = .ok (.iload 4, 2) := by decide +kernel
theorem dX8_controls_115 : decode cX8_controls 115 = .ok (.imul, 1) := by decide +kernel
theorem dX8_controls_116 : decode cX8_controls 116 = .ok (.iconst 3, 1) := by decide +kernel
theorem dX8_controls_117 : decode cX8_controls 117 = .ok (.iadd, 1) := by decide +kernel
theorem dX8_controls_118 : decode cX8_controls 118 = .ok (.iaload, 1) := by decide +kernel
theorem dX8_controls_119 : decode cX8_controls 119 = .ok (.aload_n 0, 1) := by decide +kernel
theorem dX8_controls_120 : decode cX8_controls 120 = .ok (.getfield 7, 3) := by decide +kernel
theorem dX8_controls_123 : decode cX8_controls 123 = .ok (.iload_n 1, 1) := by decide +kernel
theorem dX8_controls_124 : decode cX8_controls 124 = .ok (.iload_n 3, 1) := by decide +kernel
theorem dX8_controls_125 : decode cX8_controls 125 = .ok (.iconst 2, 1) := by decide +kernel
theorem dX8_controls_126 : decode cX8_controls 126 = .ok (.iload 4, 2) := by decide +kernel
theorem dX8_controls_128 : decode cX8_controls 128 = .ok (.iadd, 1) := by decide +kernel
theorem dX8_controls_129 : decode cX8_controls 129 = .ok (.invokestatic 92, 3) := by decide +kernel
theorem dX8_controls_132 : decode cX8_controls 132 = .ok (.iaload, 1) := by decide +kernel
theorem dX8_controls_133 : decode cX8_controls 133 = .ok (.iadd, 1) := by decide +kernel
theorem dX8_controls_134 : decode cX8_controls 134 = .ok (.iastore, 1) := by decide +kernel
theorem dX8_controls_135 : decode cX8_controls 135 = .ok (.iinc 4 1, 3) := by decide +kernel
theorem dX8_controls_138 : decode cX8_controls 138 = .ok (.goto (-125), 3) := by decide +kernel
theorem dX8_controls_141 : decode cX8_controls 141 = .ok (.return_, 1) := by decide +kernel
theorem dX8_between_0 : decode cX8_between 0 = .ok (.lload_n 0, 1) := by decide +kernel
theorem dX8_between_1 : decode cX8_between 1 = .ok (.iload 5, 2) := by decide +kernel
theorem dX8_between_3 : decode cX8_between 3 = .ok (.iload 4, 2) := by decide +kernel
theorem dX8_between_5 : decode cX8_between 5 = .ok (.isub, 1) := by decide +kernel
theorem dX8_between_6 : decode cX8_between 6 = .ok (.i2l, 1) := by decide +kernel
theorem dX8_between_7 : decode cX8_between 7 = .ok (.lmul, 1) := by decide +kernel
theorem dX8_between_8 : decode cX8_between 8 = .ok (.lload_n 2, 1) := by decide +kernel
theorem dX8_between_9 : decode cX8_between 9 = .ok (.iload 4, 2) := by decide +kernel
theorem dX8_between_11 : decode cX8_between 11 = .ok (.i2l, 1) := by decide +kernel
theorem dX8_between_12 : decode cX8_between 12 = .ok (.lmul, 1) := by decide +kernel
theorem dX8_between_13 : decode cX8_between 13 = .ok (.ladd, 1) := by decide +kernel
theorem dX8_between_14 : decode cX8_between 14 = .ok (.lreturn, 1) := by decide +kernel
theorem dX8_makesRoom_0 : decode cX8_makesRoom 0 = .ok (.aload_n 0, 1) := by decide +kernel
theorem dX8_makesRoom_1 : decode cX8_makesRoom 1 = .ok (.iload_n 1, 1) := by decide +kernel
theorem dX8_makesRoom_2 : decode cX8_makesRoom 2 = .ok (.invokevirtual 59, 3) := by decide +kernel
theorem dX8_makesRoom_5 : decode cX8_makesRoom 5 = .ok (.istore_n 3, 1) := by decide +kernel
theorem dX8_makesRoom_6 : decode cX8_makesRoom 6 = .ok (.iload_n 3, 1) := by decide +kernel
theorem dX8_makesRoom_7 : decode cX8_makesRoom 7 = .ok (.iload_n 2, 1) := by decide +kernel
theorem dX8_makesRoom_8 : decode cX8_makesRoom 8 = .ok (.if_icmp .le 19, 3) := by decide +kernel
theorem dX8_makesRoom_11 : decode cX8_makesRoom 11 = .ok (.aload_n 0, 1) := by decide +kernel
theorem dX8_makesRoom_12 : decode cX8_makesRoom 12 = .ok (.iload_n 1, 1) := by decide +kernel
theorem dX8_makesRoom_13 : decode cX8_makesRoom 13 = .ok (.iload_n 3, 1) := by decide +kernel
theorem dX8_makesRoom_14 : decode cX8_makesRoom 14 = .ok (.iconst 1, 1) := by decide +kernel
theorem dX8_makesRoom_15 : decode cX8_makesRoom 15 = .ok (.isub, 1) := by decide +kernel
theorem dX8_makesRoom_16 : decode cX8_makesRoom 16 = .ok (.iload_n 1, 1) := by decide +kernel
theorem dX8_makesRoom_17 : decode cX8_makesRoom 17 = .ok (.iload_n 3, 1) := by decide +kernel
theorem dX8_makesRoom_18 : decode cX8_makesRoom 18 = .ok (.invokevirtual 145, 3) := by decide +kernel
theorem dX8_makesRoom_21 : decode cX8_makesRoom 21 = .ok (.iinc 3 (-1), 3) := by decide +kernel
theorem dX8_makesRoom_24 : decode cX8_makesRoom 24 = .ok (.goto (-18), 3) := by decide +kernel
theorem dX8_makesRoom_27 : decode cX8_makesRoom 27 = .ok (.aload_n 0, 1) := by decide +kernel
theorem dX8_makesRoom_28 : decode cX8_makesRoom 28 = .ok (.getfield 7, 3) := by decide +kernel
theorem dX8_makesRoom_31 : decode cX8_makesRoom 31 = .ok (.iload_n 1, 1) := by decide +kernel
theorem dX8_makesRoom_32 : decode cX8_makesRoom 32 = .ok (.invokestatic 51, 3) := by decide +kernel
theorem dX8_makesRoom_35 : decode cX8_makesRoom 35 = .ok (.dup2, 1) := by decide +kernel
theorem dX8_makesRoom_36 : decode cX8_makesRoom 36 = .ok (.iaload, 1) := by decide +kernel
theorem dX8_makesRoom_37 : decode cX8_makesRoom 37 = .ok (.iconst 1, 1) := by decide +kernel
theorem dX8_makesRoom_38 : decode cX8_makesRoom 38 = .ok (.iadd, 1) := by decide +kernel
theorem dX8_makesRoom_39 : decode cX8_makesRoom 39 = .ok (.iastore, 1) := by decide +kernel
theorem dX8_makesRoom_40 : decode cX8_makesRoom 40 = .ok (.return_, 1) := by decide +kernel
theorem dX8_splits_0 : decode cX8_splits 0 = .ok (.iload_n 1, 1) := by decide +kernel
theorem dX8_splits_1 : decode cX8_splits 1 = .ok (.iload_n 2, 1) := by decide +kernel
theorem dX8_splits_2 : decode cX8_splits 2 = .ok (.iconst 4, 1) := by decide +kernel
theorem dX8_splits_3 : decode cX8_splits 3 = .ok (.iload 4, 2) := by decide +kernel
theorem dX8_splits_5 : decode cX8_splits 5 = .ok (.iadd, 1) := by decide +kernel
theorem dX8_splits_6 : decode cX8_splits 6 = .ok (.invokestatic 92, 3) := by decide +kernel
theorem dX8_splits_9 : decode cX8_splits 9 = .ok (.istore 7, 2) := by decide +kernel
theorem dX8_splits_11 : decode cX8_splits 11 = .ok (.iload_n 1, 1) := by decide +kernel
theorem dX8_splits_12 : decode cX8_splits 12 = .ok (.iload_n 2, 1) := by decide +kernel
theorem dX8_splits_13 : decode cX8_splits 13 = .ok (.iconst 1, 1) := by decide +kernel
theorem dX8_splits_14 : decode cX8_splits 14 = .ok (.iadd, 1) := by decide +kernel
theorem dX8_splits_15 : decode cX8_splits 15 = .ok (.iload 4, 2) := by decide +kernel
theorem dX8_splits_17 : decode cX8_splits 17 = .ok (.invokestatic 92, 3) := by decide +kernel
theorem dX8_splits_20 : decode cX8_splits 20 = .ok (.istore 8, 2) := by decide +kernel
theorem dX8_splits_22 : decode cX8_splits 22 = .ok (.iconst 4, 1) := by decide +kernel
theorem dX8_splits_23 : decode cX8_splits 23 = .ok (.iload 4, 2) := by decide +kernel
theorem dX8_splits_25 : decode cX8_splits 25 = .ok (.imul, 1) := by decide +kernel
theorem dX8_splits_26 : decode cX8_splits 26 = .ok (.istore 9, 2) := by decide +kernel
theorem dX8_splits_28 : decode cX8_splits 28 = .ok (.aload_n 0, 1) := by decide +kernel
theorem dX8_splits_29 : decode cX8_splits 29 = .ok (.getfield 35, 3) := by decide +kernel
theorem dX8_splits_32 : decode cX8_splits 32 = .ok (.iload 9, 2) := by decide +kernel
theorem dX8_splits_34 : decode cX8_splits 34 = .ok (.iaload, 1) := by decide +kernel
theorem dX8_splits_35 : decode cX8_splits 35 = .ok (.i2l, 1) := by decide +kernel
theorem dX8_splits_36 : decode cX8_splits 36 = .ok (.aload_n 0, 1) := by decide +kernel
theorem dX8_splits_37 : decode cX8_splits 37 = .ok (.getfield 35, 3) := by decide +kernel
theorem dX8_splits_40 : decode cX8_splits 40 = .ok (.iload 9, 2) := by decide +kernel
theorem dX8_splits_42 : decode cX8_splits 42 = .ok (.iconst 1, 1) := by decide +kernel
theorem dX8_splits_43 : decode cX8_splits 43 = .ok (.iadd, 1) := by decide +kernel
theorem dX8_splits_44 : decode cX8_splits 44 = .ok (.iaload, 1) := by decide +kernel
theorem dX8_splits_45 : decode cX8_splits 45 = .ok (.i2l, 1) := by decide +kernel
theorem dX8_splits_46 : decode cX8_splits 46 = .ok (.iload 5, 2) := by decide +kernel
theorem dX8_splits_48 : decode cX8_splits 48 = .ok (.iload 6, 2) := by decide +kernel
theorem dX8_splits_50 : decode cX8_splits 50 = .ok (.invokestatic 148, 3) := by decide +kernel
theorem dX8_splits_53 : decode cX8_splits 53 = .ok (.lstore 10, 2) := by decide +kernel
theorem dX8_splits_55 : decode cX8_splits 55 = .ok (.aload_n 0, 1) := by decide +kernel
theorem dX8_splits_56 : decode cX8_splits 56 = .ok (.getfield 35, 3) := by decide +kernel
theorem dX8_splits_59 : decode cX8_splits 59 = .ok (.iload 9, 2) := by decide +kernel
theorem dX8_splits_61 : decode cX8_splits 61 = .ok (.iconst 1, 1) := by decide +kernel
theorem dX8_splits_62 : decode cX8_splits 62 = .ok (.iadd, 1) := by decide +kernel
theorem dX8_splits_63 : decode cX8_splits 63 = .ok (.iaload, 1) := by decide +kernel
theorem dX8_splits_64 : decode cX8_splits 64 = .ok (.i2l, 1) := by decide +kernel
theorem dX8_splits_65 : decode cX8_splits 65 = .ok (.aload_n 0, 1) := by decide +kernel
theorem dX8_splits_66 : decode cX8_splits 66 = .ok (.getfield 35, 3) := by decide +kernel
theorem dX8_splits_69 : decode cX8_splits 69 = .ok (.iload 9, 2) := by decide +kernel
theorem dX8_splits_71 : decode cX8_splits 71 = .ok (.iconst 2, 1) := by decide +kernel
theorem dX8_splits_72 : decode cX8_splits 72 = .ok (.iadd, 1) := by decide +kernel
theorem dX8_splits_73 : decode cX8_splits 73 = .ok (.iaload, 1) := by decide +kernel
theorem dX8_splits_74 : decode cX8_splits 74 = .ok (.i2l, 1) := by decide +kernel
theorem dX8_splits_75 : decode cX8_splits 75 = .ok (.iload 5, 2) := by decide +kernel
theorem dX8_splits_77 : decode cX8_splits 77 = .ok (.iload 6, 2) := by decide +kernel
theorem dX8_splits_79 : decode cX8_splits 79 = .ok (.invokestatic 148, 3) := by decide +kernel
theorem dX8_splits_82 : decode cX8_splits 82 = .ok (.lstore 12, 2) := by decide +kernel
theorem dX8_splits_84 : decode cX8_splits 84 = .ok (.aload_n 0, 1) := by decide +kernel
theorem dX8_splits_85 : decode cX8_splits 85 = .ok (.getfield 35, 3) := by decide +kernel
theorem dX8_splits_88 : decode cX8_splits 88 = .ok (.iload 9, 2) := by decide +kernel
theorem dX8_splits_90 : decode cX8_splits 90 = .ok (.iconst 2, 1) := by decide +kernel
theorem dX8_splits_91 : decode cX8_splits 91 = .ok (.iadd, 1) := by decide +kernel
theorem dX8_splits_92 : decode cX8_splits 92 = .ok (.iaload, 1) := by decide +kernel
theorem dX8_splits_93 : decode cX8_splits 93 = .ok (.i2l, 1) := by decide +kernel
theorem dX8_splits_94 : decode cX8_splits 94 = .ok (.aload_n 0, 1) := by decide +kernel
theorem dX8_splits_95 : decode cX8_splits 95 = .ok (.getfield 35, 3) := by decide +kernel
theorem dX8_splits_98 : decode cX8_splits 98 = .ok (.iload 9, 2) := by decide +kernel
theorem dX8_splits_100 : decode cX8_splits 100 = .ok (.iconst 3, 1) := by decide +kernel
theorem dX8_splits_101 : decode cX8_splits 101 = .ok (.iadd, 1) := by decide +kernel
theorem dX8_splits_102 : decode cX8_splits 102 = .ok (.iaload, 1) := by decide +kernel
theorem dX8_splits_103 : decode cX8_splits 103 = .ok (.i2l, 1) := by decide +kernel
theorem dX8_splits_104 : decode cX8_splits 104 = .ok (.iload 5, 2) := by decide +kernel
theorem dX8_splits_106 : decode cX8_splits 106 = .ok (.iload 6, 2) := by decide +kernel
theorem dX8_splits_108 : decode cX8_splits 108 = .ok (.invokestatic 148, 3) := by decide +kernel
theorem dX8_splits_111 : decode cX8_splits 111 = .ok (.lstore 14, 2) := by decide +kernel
theorem dX8_splits_113 : decode cX8_splits 113 = .ok (.lload 10, 2) := by decide +kernel
theorem dX8_splits_115 : decode cX8_splits 115 = .ok (.lload 12, 2) := by decide +kernel
theorem dX8_splits_117 : decode cX8_splits 117 = .ok (.iload 5, 2) := by decide +kernel
theorem dX8_splits_119 : decode cX8_splits 119 = .ok (.iload 6, 2) := by decide +kernel
theorem dX8_splits_121 : decode cX8_splits 121 = .ok (.invokestatic 148, 3) := by decide +kernel
theorem dX8_splits_124 : decode cX8_splits 124 = .ok (.lstore 16, 2) := by decide +kernel
theorem dX8_splits_126 : decode cX8_splits 126 = .ok (.lload 12, 2) := by decide +kernel
theorem dX8_splits_128 : decode cX8_splits 128 = .ok (.lload 14, 2) := by decide +kernel
theorem dX8_splits_130 : decode cX8_splits 130 = .ok (.iload 5, 2) := by decide +kernel
theorem dX8_splits_132 : decode cX8_splits 132 = .ok (.iload 6, 2) := by decide +kernel
theorem dX8_splits_134 : decode cX8_splits 134 = .ok (.invokestatic 148, 3) := by decide +kernel
theorem dX8_splits_137 : decode cX8_splits 137 = .ok (.lstore 18, 2) := by decide +kernel
theorem dX8_splits_139 : decode cX8_splits 139 = .ok (.lload 16, 2) := by decide +kernel
theorem dX8_splits_141 : decode cX8_splits 141 = .ok (.lload 18, 2) := by decide +kernel
theorem dX8_splits_143 : decode cX8_splits 143 = .ok (.iload 5, 2) := by decide +kernel
theorem dX8_splits_145 : decode cX8_splits 145 = .ok (.iload 6, 2) := by decide +kernel
theorem dX8_splits_147 : decode cX8_splits 147 = .ok (.invokestatic 148, 3) := by decide +kernel
theorem dX8_splits_150 : decode cX8_splits 150 = .ok (.lstore 20, 2) := by decide +kernel
theorem dX8_splits_152 : decode cX8_splits 152 = .ok (.iload 6, 2) := by decide +kernel
theorem dX8_splits_154 : decode cX8_splits 154 = .ok (.i2l, 1) := by decide +kernel
theorem dX8_splits_155 : decode cX8_splits 155 = .ok (.iload 6, 2) := by decide +kernel
theorem dX8_splits_157 : decode cX8_splits 157 = .ok (.i2l, 1) := by decide +kernel
theorem dX8_splits_158 : decode cX8_splits 158 = .ok (.lmul, 1) := by decide +kernel
theorem dX8_splits_159 : decode cX8_splits 159 = .ok (.iload 6, 2) := by decide +kernel
theorem dX8_splits_161 : decode cX8_splits 161 = .ok (.i2l, 1) := by decide +kernel
theorem dX8_splits_162 : decode cX8_splits 162 = .ok (.lmul, 1) := by decide +kernel
theorem dX8_splits_163 : decode cX8_splits 163 = .ok (.lstore 22, 2) := by decide +kernel
theorem dX8_splits_165 : decode cX8_splits 165 = .ok (.aload_n 0, 1) := by decide +kernel
theorem dX8_splits_166 : decode cX8_splits 166 = .ok (.iload 7, 2) := by decide +kernel
theorem dX8_splits_168 : decode cX8_splits 168 = .ok (.lload 10, 2) := by decide +kernel
theorem dX8_splits_170 : decode cX8_splits 170 = .ok (.iload 6, 2) := by decide +kernel
theorem dX8_splits_172 : decode cX8_splits 172 = .ok (.i2l, 1) := by decide +kernel
theorem dX8_splits_173 : decode cX8_splits 173 = .ok (.aload_n 0, 1) := by decide +kernel
theorem dX8_splits_174 : decode cX8_splits 174 = .ok (.getfield 35, 3) := by decide +kernel
theorem dX8_splits_177 : decode cX8_splits 177 = .ok (.iload 9, 2) := by decide +kernel
theorem dX8_splits_179 : decode cX8_splits 179 = .ok (.iaload, 1) := by decide +kernel
theorem dX8_splits_180 : decode cX8_splits 180 = .ok (.i2l, 1) := by decide +kernel
theorem dX8_splits_181 : decode cX8_splits 181 = .ok (.lmul, 1) := by decide +kernel
theorem dX8_splits_182 : decode cX8_splits 182 = .ok (.lsub, 1) := by decide +kernel
theorem dX8_splits_183 : decode cX8_splits 183 = .ok (.iload 6, 2) := by decide +kernel
theorem dX8_splits_185 : decode cX8_splits 185 = .ok (.i2l, 1) := by decide +kernel
theorem dX8_splits_186 : decode cX8_splits 186 = .ok (.invokevirtual 100, 3) := by decide +kernel
theorem dX8_splits_189 : decode cX8_splits 189 = .ok (.aload_n 0, 1) := by decide +kernel
theorem dX8_splits_190 : decode cX8_splits 190 = .ok (.iload_n 1, 1) := by decide +kernel
theorem dX8_splits_191 : decode cX8_splits 191 = .ok (.iload_n 3, 1) := by decide +kernel
theorem dX8_splits_192 : decode cX8_splits 192 = .ok (.iconst 2, 1) := by decide +kernel
theorem dX8_splits_193 : decode cX8_splits 193 = .ok (.iload 4, 2) := by decide +kernel
theorem dX8_splits_195 : decode cX8_splits 195 = .ok (.iadd, 1) := by decide +kernel
theorem dX8_splits_196 : decode cX8_splits 196 = .ok (.invokestatic 92, 3) := by decide +kernel
theorem dX8_splits_199 : decode cX8_splits 199 = .ok (.lload 14, 2) := by decide +kernel
theorem dX8_splits_201 : decode cX8_splits 201 = .ok (.iload 6, 2) := by decide +kernel
theorem dX8_splits_203 : decode cX8_splits 203 = .ok (.i2l, 1) := by decide +kernel
theorem dX8_splits_204 : decode cX8_splits 204 = .ok (.aload_n 0, 1) := by decide +kernel
theorem dX8_splits_205 : decode cX8_splits 205 = .ok (.getfield 35, 3) := by decide +kernel
theorem dX8_splits_208 : decode cX8_splits 208 = .ok (.iload 9, 2) := by decide +kernel
theorem dX8_splits_210 : decode cX8_splits 210 = .ok (.iconst 3, 1) := by decide +kernel
theorem dX8_splits_211 : decode cX8_splits 211 = .ok (.iadd, 1) := by decide +kernel
theorem dX8_splits_212 : decode cX8_splits 212 = .ok (.iaload, 1) := by decide +kernel
theorem dX8_splits_213 : decode cX8_splits 213 = .ok (.i2l, 1) := by decide +kernel
theorem dX8_splits_214 : decode cX8_splits 214 = .ok (.lmul, 1) := by decide +kernel
theorem dX8_splits_215 : decode cX8_splits 215 = .ok (.lsub, 1) := by decide +kernel
theorem dX8_splits_216 : decode cX8_splits 216 = .ok (.iload 6, 2) := by decide +kernel
theorem dX8_splits_218 : decode cX8_splits 218 = .ok (.i2l, 1) := by decide +kernel
theorem dX8_splits_219 : decode cX8_splits 219 = .ok (.invokevirtual 100, 3) := by decide +kernel
theorem dX8_splits_222 : decode cX8_splits 222 = .ok (.aload_n 0, 1) := by decide +kernel
theorem dX8_splits_223 : decode cX8_splits 223 = .ok (.iload 8, 2) := by decide +kernel
theorem dX8_splits_225 : decode cX8_splits 225 = .ok (.lload 20, 2) := by decide +kernel
theorem dX8_splits_227 : decode cX8_splits 227 = .ok (.lload 22, 2) := by decide +kernel
theorem dX8_splits_229 : decode cX8_splits 229 = .ok (.invokevirtual 100, 3) := by decide +kernel
theorem dX8_splits_232 : decode cX8_splits 232 = .ok (.aload_n 0, 1) := by decide +kernel
theorem dX8_splits_233 : decode cX8_splits 233 = .ok (.iload 8, 2) := by decide +kernel
theorem dX8_splits_235 : decode cX8_splits 235 = .ok (.iconst 2, 1) := by decide +kernel
theorem dX8_splits_236 : decode cX8_splits 236 = .ok (.iadd, 1) := by decide +kernel
theorem dX8_splits_237 : decode cX8_splits 237 = .ok (.iload 6, 2) := by decide +kernel
theorem dX8_splits_239 : decode cX8_splits 239 = .ok (.i2l, 1) := by decide +kernel
theorem dX8_splits_240 : decode cX8_splits 240 = .ok (.lload 16, 2) := by decide +kernel
theorem dX8_splits_242 : decode cX8_splits 242 = .ok (.lmul, 1) := by decide +kernel
theorem dX8_splits_243 : decode cX8_splits 243 = .ok (.lload 20, 2) := by decide +kernel
theorem dX8_splits_245 : decode cX8_splits 245 = .ok (.lsub, 1) := by decide +kernel
theorem dX8_splits_246 : decode cX8_splits 246 = .ok (.lload 22, 2) := by decide +kernel
theorem dX8_splits_248 : decode cX8_splits 248 = .ok (.invokevirtual 100, 3) := by decide +kernel
theorem dX8_splits_251 : decode cX8_splits 251 = .ok (.aload_n 0, 1) := by decide +kernel
theorem dX8_splits_252 : decode cX8_splits 252 = .ok (.iload 8, 2) := by decide +kernel
theorem dX8_splits_254 : decode cX8_splits 254 = .ok (.iconst 4, 1) := by decide +kernel
theorem dX8_splits_255 : decode cX8_splits 255 = .ok (.iadd, 1) := by decide +kernel
theorem dX8_splits_256 : decode cX8_splits 256 = .ok (.iload 6, 2) := by decide +kernel
theorem dX8_splits_258 : decode cX8_splits 258 = .ok (.i2l, 1) := by decide +kernel
theorem dX8_splits_259 : decode cX8_splits 259 = .ok (.lload 18, 2) := by decide +kernel
theorem dX8_splits_261 : decode cX8_splits 261 = .ok (.lmul, 1) := by decide +kernel
theorem dX8_splits_262 : decode cX8_splits 262 = .ok (.lload 20, 2) := by decide +kernel
theorem dX8_splits_264 : decode cX8_splits 264 = .ok (.lsub, 1) := by decide +kernel
theorem dX8_splits_265 : decode cX8_splits 265 = .ok (.lload 22, 2) := by decide +kernel
theorem dX8_splits_267 : decode cX8_splits 267 = .ok (.invokevirtual 100, 3) := by decide +kernel
theorem dX8_splits_270 : decode cX8_splits 270 = .ok (.return_, 1) := by decide +kernel
theorem dX8_insert_0 : decode cX8_insert 0 = .ok (.aload_n 0, 1) := by decide +kernel
theorem dX8_insert_1 : decode cX8_insert 1 = .ok (.iload_n 1, 1) := by decide +kernel
theorem dX8_insert_2 : decode cX8_insert 2 = .ok (.iload_n 2, 1) := by decide +kernel
theorem dX8_insert_3 : decode cX8_insert 3 = .ok (.invokevirtual 152, 3) := by decide +kernel
theorem dX8_insert_6 : decode cX8_insert 6 = .ok (.ifCond .ne 6, 3) := by decide +kernel
theorem dX8_insert_9 : decode cX8_insert 9 = .ok (.ldc 121, 2) := by decide +kernel
theorem dX8_insert_11 : decode cX8_insert 11 = .ok (.ireturn, 1) := by decide +kernel
theorem dX8_insert_12 : decode cX8_insert 12 = .ok (.iload 4, 2) := by decide +kernel
theorem dX8_insert_14 : decode cX8_insert 14 = .ok (.iconst 2, 1) := by decide +kernel
theorem dX8_insert_15 : decode cX8_insert 15 = .ok (.bipush 6, 2) := by decide +kernel
theorem dX8_insert_17 : decode cX8_insert 17 = .ok (.invokestatic 47, 3) := by decide +kernel
theorem dX8_insert_20 : decode cX8_insert 20 = .ok (.ifCond .eq 15, 3) := by decide +kernel
theorem dX8_insert_23 : decode cX8_insert 23 = .ok (.iload_n 3, 1) := by decide +kernel
theorem dX8_insert_24 : decode cX8_insert 24 = .ok (.iconst 1, 1) := by decide +kernel
theorem dX8_insert_25 : decode cX8_insert 25 = .ok (.iload 4, 2) := by decide +kernel
theorem dX8_insert_27 : decode cX8_insert 27 = .ok (.iconst 1, 1) := by decide +kernel
theorem dX8_insert_28 : decode cX8_insert 28 = .ok (.isub, 1) := by decide +kernel
theorem dX8_insert_29 : decode cX8_insert 29 = .ok (.invokestatic 47, 3) := by decide +kernel
theorem dX8_insert_32 : decode cX8_insert 32 = .ok (.ifCond .ne 6, 3) := by decide +kernel
theorem dX8_insert_35 : decode cX8_insert 35 = .ok (.ldc 108, 2) := by decide +kernel
theorem dX8_insert_37 : decode cX8_insert 37 = .ok (.ireturn, 1) := by decide +kernel
theorem dX8_insert_38 : decode cX8_insert 38 = .ok (.aload_n 0, 1) := by decide +kernel
theorem dX8_insert_39 : decode cX8_insert 39 = .ok (.iload_n 1, 1) := by decide +kernel
theorem dX8_insert_40 : decode cX8_insert 40 = .ok (.invokevirtual 59, 3) := by decide +kernel
theorem dX8_insert_43 : decode cX8_insert 43 = .ok (.bipush 12, 2) := by decide +kernel
theorem dX8_insert_45 : decode cX8_insert 45 = .ok (.if_icmp .ne 6, 3) := by decide +kernel
theorem dX8_insert_48 : decode cX8_insert 48 = .ok (.ldc 109, 2) := by decide +kernel
theorem dX8_insert_50 : decode cX8_insert 50 = .ok (.ireturn, 1) := by decide +kernel
theorem dX8_insert_51 : decode cX8_insert 51 = .ok (.aload_n 0, 1) := by decide +kernel
theorem dX8_insert_52 : decode cX8_insert 52 = .ok (.invokevirtual 110, 3) := by decide +kernel
theorem dX8_insert_55 : decode cX8_insert 55 = .ok (.aload_n 0, 1) := by decide +kernel
theorem dX8_insert_56 : decode cX8_insert 56 = .ok (.iconst 0, 1) := by decide +kernel
theorem dX8_insert_57 : decode cX8_insert 57 = .ok (.putfield 84, 3) := by decide +kernel
theorem dX8_insert_60 : decode cX8_insert 60 = .ok (.aload_n 0, 1) := by decide +kernel
theorem dX8_insert_61 : decode cX8_insert 61 = .ok (.iload_n 1, 1) := by decide +kernel
theorem dX8_insert_62 : decode cX8_insert 62 = .ok (.iload_n 2, 1) := by decide +kernel
theorem dX8_insert_63 : decode cX8_insert 63 = .ok (.invokevirtual 155, 3) := by decide +kernel
theorem dX8_insert_66 : decode cX8_insert 66 = .ok (.aload_n 0, 1) := by decide +kernel
theorem dX8_insert_67 : decode cX8_insert 67 = .ok (.iload_n 1, 1) := by decide +kernel
theorem dX8_insert_68 : decode cX8_insert 68 = .ok (.iload_n 2, 1) := by decide +kernel
theorem dX8_insert_69 : decode cX8_insert 69 = .ok (.iconst 1, 1) := by decide +kernel
theorem dX8_insert_70 : decode cX8_insert 70 = .ok (.iadd, 1) := by decide +kernel
theorem dX8_insert_71 : decode cX8_insert 71 = .ok (.invokevirtual 159, 3) := by decide +kernel
theorem dX8_insert_74 : decode cX8_insert 74 = .ok (.iload_n 2, 1) := by decide +kernel
theorem dX8_insert_75 : decode cX8_insert 75 = .ok (.iconst 2, 1) := by decide +kernel
theorem dX8_insert_76 : decode cX8_insert 76 = .ok (.iadd, 1) := by decide +kernel
theorem dX8_insert_77 : decode cX8_insert 77 = .ok (.aload_n 0, 1) := by decide +kernel
theorem dX8_insert_78 : decode cX8_insert 78 = .ok (.iload_n 1, 1) := by decide +kernel
theorem dX8_insert_79 : decode cX8_insert 79 = .ok (.invokevirtual 59, 3) := by decide +kernel
theorem dX8_insert_82 : decode cX8_insert 82 = .ok (.irem, 1) := by decide +kernel
theorem dX8_insert_83 : decode cX8_insert 83 = .ok (.istore 5, 2) := by decide +kernel
theorem dX8_insert_85 : decode cX8_insert 85 = .ok (.aload_n 0, 1) := by decide +kernel
theorem dX8_insert_86 : decode cX8_insert 86 = .ok (.iload_n 1, 1) := by decide +kernel
theorem dX8_insert_87 : decode cX8_insert 87 = .ok (.iload_n 2, 1) := by decide +kernel
theorem dX8_insert_88 : decode cX8_insert 88 = .ok (.iload 5, 2) := by decide +kernel
theorem dX8_insert_90 : decode cX8_insert 90 = .ok (.iconst 0, 1) := by decide +kernel
theorem dX8_insert_91 : decode cX8_insert 91 = .ok (.iload_n 3, 1) := by decide +kernel
theorem dX8_insert_92 : decode cX8_insert 92 = .ok (.iload 4, 2) := by decide +kernel
theorem dX8_insert_94 : decode cX8_insert 94 = .ok (.invokevirtual 162, 3) := by decide +kernel
theorem dX8_insert_97 : decode cX8_insert 97 = .ok (.aload_n 0, 1) := by decide +kernel
theorem dX8_insert_98 : decode cX8_insert 98 = .ok (.iload_n 1, 1) := by decide +kernel
theorem dX8_insert_99 : decode cX8_insert 99 = .ok (.iload_n 2, 1) := by decide +kernel
theorem dX8_insert_100 : decode cX8_insert 100 = .ok (.iload 5, 2) := by decide +kernel
theorem dX8_insert_102 : decode cX8_insert 102 = .ok (.iconst 1, 1) := by decide +kernel
theorem dX8_insert_103 : decode cX8_insert 103 = .ok (.iload_n 3, 1) := by decide +kernel
theorem dX8_insert_104 : decode cX8_insert 104 = .ok (.iload 4, 2) := by decide +kernel
theorem dX8_insert_106 : decode cX8_insert 106 = .ok (.invokevirtual 162, 3) := by decide +kernel
theorem dX8_insert_109 : decode cX8_insert 109 = .ok (.aload_n 0, 1) := by decide +kernel
theorem dX8_insert_110 : decode cX8_insert 110 = .ok (.iload_n 1, 1) := by decide +kernel
theorem dX8_insert_111 : decode cX8_insert 111 = .ok (.iload_n 2, 1) := by decide +kernel
theorem dX8_insert_112 : decode cX8_insert 112 = .ok (.iconst 1, 1) := by decide +kernel
theorem dX8_insert_113 : decode cX8_insert 113 = .ok (.iadd, 1) := by decide +kernel
theorem dX8_insert_114 : decode cX8_insert 114 = .ok (.iload_n 3, 1) := by decide +kernel
theorem dX8_insert_115 : decode cX8_insert 115 = .ok (.iload 4, 2) := by decide +kernel
theorem dX8_insert_117 : decode cX8_insert 117 = .ok (.iload_n 3, 1) := by decide +kernel
theorem dX8_insert_118 : decode cX8_insert 118 = .ok (.isub, 1) := by decide +kernel
theorem dX8_insert_119 : decode cX8_insert 119 = .ok (.invokevirtual 142, 3) := by decide +kernel
theorem dX8_insert_122 : decode cX8_insert 122 = .ok (.aload_n 0, 1) := by decide +kernel
theorem dX8_insert_123 : decode cX8_insert 123 = .ok (.iload_n 1, 1) := by decide +kernel
theorem dX8_insert_124 : decode cX8_insert 124 = .ok (.iload_n 2, 1) := by decide +kernel
theorem dX8_insert_125 : decode cX8_insert 125 = .ok (.invokevirtual 135, 3) := by decide +kernel
theorem dX8_insert_128 : decode cX8_insert 128 = .ok (.ifCond .eq 38, 3) := by decide +kernel
theorem dX8_insert_131 : decode cX8_insert 131 = .ok (.aload_n 0, 1) := by decide +kernel
theorem dX8_insert_132 : decode cX8_insert 132 = .ok (.iload_n 1, 1) := by decide +kernel
theorem dX8_insert_133 : decode cX8_insert 133 = .ok (.iload_n 2, 1) := by decide +kernel
theorem dX8_insert_134 : decode cX8_insert 134 = .ok (.aload_n 0, 1) := by decide +kernel
theorem dX8_insert_135 : decode cX8_insert 135 = .ok (.getfield 7, 3) := by decide +kernel
theorem dX8_insert_138 : decode cX8_insert 138 = .ok (.iload_n 1, 1) := by decide +kernel
theorem dX8_insert_139 : decode cX8_insert 139 = .ok (.iload_n 2, 1) := by decide +kernel
theorem dX8_insert_140 : decode cX8_insert 140 = .ok (.bipush 6, 2) := by decide +kernel
theorem dX8_insert_142 : decode cX8_insert 142 = .ok (.invokestatic 92, 3) := by decide +kernel
theorem dX8_insert_145 : decode cX8_insert 145 = .ok (.iaload, 1) := by decide +kernel
theorem dX8_insert_146 : decode cX8_insert 146 = .ok (.iload 4, 2) := by decide +kernel
theorem dX8_insert_148 : decode cX8_insert 148 = .ok (.imul, 1) := by decide +kernel
theorem dX8_insert_149 : decode cX8_insert 149 = .ok (.aload_n 0, 1) := by decide +kernel
theorem dX8_insert_150 : decode cX8_insert 150 = .ok (.getfield 7, 3) := by decide +kernel
theorem dX8_insert_153 : decode cX8_insert 153 = .ok (.iload_n 1, 1) := by decide +kernel
theorem dX8_insert_154 : decode cX8_insert 154 = .ok (.iload_n 2, 1) := by decide +kernel
theorem dX8_insert_155 : decode cX8_insert 155 = .ok (.bipush 7, 2) := by decide +kernel
theorem dX8_insert_157 : decode cX8_insert 157 = .ok (.invokestatic 92, 3) := by decide +kernel
theorem dX8_insert_160 : decode cX8_insert 160 = .ok (.iaload, 1) := by decide +kernel
theorem dX8_insert_161 : decode cX8_insert 161 = .ok (.iload_n 3, 1) := by decide +kernel
theorem dX8_insert_162 : decode cX8_insert 162 = .ok (.imul, 1) := by decide +kernel
theorem dX8_insert_163 : decode cX8_insert 163 = .ok (.invokevirtual 142, 3) := by decide +kernel
theorem dX8_insert_166 : decode cX8_insert 166 = .ok (.aload_n 0, 1) := by decide +kernel
theorem dX8_insert_167 : decode cX8_insert 167 = .ok (.iload_n 1, 1) := by decide +kernel
theorem dX8_insert_168 : decode cX8_insert 168 = .ok (.iload 5, 2) := by decide +kernel
theorem dX8_insert_170 : decode cX8_insert 170 = .ok (.invokevirtual 135, 3) := by decide +kernel
theorem dX8_insert_173 : decode cX8_insert 173 = .ok (.ifCond .eq 44, 3) := by decide +kernel
theorem dX8_insert_176 : decode cX8_insert 176 = .ok (.aload_n 0, 1) := by decide +kernel
theorem dX8_insert_177 : decode cX8_insert 177 = .ok (.iload_n 1, 1) := by decide +kernel
theorem dX8_insert_178 : decode cX8_insert 178 = .ok (.iload 5, 2) := by decide +kernel
theorem dX8_insert_180 : decode cX8_insert 180 = .ok (.aload_n 0, 1) := by decide +kernel
theorem dX8_insert_181 : decode cX8_insert 181 = .ok (.getfield 7, 3) := by decide +kernel
theorem dX8_insert_184 : decode cX8_insert 184 = .ok (.iload_n 1, 1) := by decide +kernel
theorem dX8_insert_185 : decode cX8_insert 185 = .ok (.iload 5, 2) := by decide +kernel
theorem dX8_insert_187 : decode cX8_insert 187 = .ok (.bipush 6, 2) := by decide +kernel
theorem dX8_insert_189 : decode cX8_insert 189 = .ok (.invokestatic 92, 3) := by decide +kernel
theorem dX8_insert_192 : decode cX8_insert 192 = .ok (.iaload, 1) := by decide +kernel
theorem dX8_insert_193 : decode cX8_insert 193 = .ok (.iload 4, 2) := by decide +kernel
theorem dX8_insert_195 : decode cX8_insert 195 = .ok (.iload_n 3, 1) := by decide +kernel
theorem dX8_insert_196 : decode cX8_insert 196 = .ok (.isub, 1) := by decide +kernel
theorem dX8_insert_197 : decode cX8_insert 197 = .ok (.imul, 1) := by decide +kernel
theorem dX8_insert_198 : decode cX8_insert 198 = .ok (.aload_n 0, 1) := by decide +kernel
theorem dX8_insert_199 : decode cX8_insert 199 = .ok (.getfield 7, 3) := by decide +kernel
theorem dX8_insert_202 : decode cX8_insert 202 = .ok (.iload_n 1, 1) := by decide +kernel
theorem dX8_insert_203 : decode cX8_insert 203 = .ok (.iload 5, 2) := by decide +kernel
theorem dX8_insert_205 : decode cX8_insert 205 = .ok (.bipush 7, 2) := by decide +kernel
theorem dX8_insert_207 : decode cX8_insert 207 = .ok (.invokestatic 92, 3) := by decide +kernel
theorem dX8_insert_210 : decode cX8_insert 210 = .ok (.iaload, 1) := by decide +kernel
theorem dX8_insert_211 : decode cX8_insert 211 = .ok (.iload 4, 2) := by decide +kernel
theorem dX8_insert_213 : decode cX8_insert 213 = .ok (.imul, 1) := by decide +kernel
theorem dX8_insert_214 : decode cX8_insert 214 = .ok (.invokevirtual 142, 3) := by decide +kernel
theorem dX8_insert_217 : decode cX8_insert 217 = .ok (.aload_n 0, 1) := by decide +kernel
theorem dX8_insert_218 : decode cX8_insert 218 = .ok (.getfield 84, 3) := by decide +kernel
theorem dX8_insert_221 : decode cX8_insert 221 = .ok (.ifCond .ge 14, 3) := by decide +kernel
theorem dX8_insert_224 : decode cX8_insert 224 = .ok (.aload_n 0, 1) := by decide +kernel
theorem dX8_insert_225 : decode cX8_insert 225 = .ok (.aload_n 0, 1) := by decide +kernel
theorem dX8_insert_226 : decode cX8_insert 226 = .ok (.getfield 84, 3) := by decide +kernel
theorem dX8_insert_229 : decode cX8_insert 229 = .ok (.invokevirtual 132, 3) := by decide +kernel
theorem dX8_insert_232 : decode cX8_insert 232 = .ok (.goto 10, 3) := by decide +kernel
theorem dX8_insert_235 : decode cX8_insert 235 = .ok (.aload_n 0, 1) := by decide +kernel
theorem dX8_insert_236 : decode cX8_insert 236 = .ok (.iload_n 2, 1) := by decide +kernel
theorem dX8_insert_237 : decode cX8_insert 237 = .ok (.iconst 1, 1) := by decide +kernel
theorem dX8_insert_238 : decode cX8_insert 238 = .ok (.iadd, 1) := by decide +kernel
theorem dX8_insert_239 : decode cX8_insert 239 = .ok (.invokevirtual 118, 3) := by decide +kernel
theorem dX8_insert_242 : decode cX8_insert 242 = .ok (.ireturn, 1) := by decide +kernel
theorem dX8_removeNode_0 : decode cX8_removeNode 0 = .ok (.aload_n 0, 1) := by decide +kernel
theorem dX8_removeNode_1 : decode cX8_removeNode 1 = .ok (.iload_n 1, 1) := by decide +kernel
theorem dX8_removeNode_2 : decode cX8_removeNode 2 = .ok (.iload_n 2, 1) := by decide +kernel
theorem dX8_removeNode_3 : decode cX8_removeNode 3 = .ok (.invokevirtual 127, 3) := by decide +kernel
theorem dX8_removeNode_6 : decode cX8_removeNode 6 = .ok (.ifCond .ne 6, 3) := by decide +kernel
theorem dX8_removeNode_9 : decode cX8_removeNode 9 = .ok (.ldc 121, 2) := by decide +kernel
theorem dX8_removeNode_11 : decode cX8_removeNode 11 = .ok (.ireturn, 1) := by decide +kernel
theorem dX8_removeNode_12 : decode cX8_removeNode 12 = .ok (.aload_n 0, 1) := by decide +kernel
theorem dX8_removeNode_13 : decode cX8_removeNode 13 = .ok (.invokevirtual 110, 3) := by decide +kernel
theorem dX8_removeNode_16 : decode cX8_removeNode 16 = .ok (.aload_n 0, 1) := by decide +kernel
theorem dX8_removeNode_17 : decode cX8_removeNode 17 = .ok (.iload_n 1, 1) := by decide +kernel
theorem dX8_removeNode_18 : decode cX8_removeNode 18 = .ok (.invokevirtual 59, 3) := by decide +kernel
theorem dX8_removeNode_21 : decode cX8_removeNode 21 = .ok (.iconst 1, 1) := by decide +kernel
theorem dX8_removeNode_22 : decode cX8_removeNode 22 = .ok (.isub, 1) := by decide +kernel
theorem dX8_removeNode_23 : decode cX8_removeNode 23 = .ok (.istore_n 3, 1) := by decide +kernel
theorem dX8_removeNode_24 : decode cX8_removeNode 24 = .ok (.iload_n 2, 1) := by decide +kernel
theorem dX8_removeNode_25 : decode cX8_removeNode 25 = .ok (.istore 4, 2) := by decide +kernel
theorem dX8_removeNode_27 : decode cX8_removeNode 27 = .ok (.iload 4, 2) := by decide +kernel
theorem dX8_removeNode_29 : decode cX8_removeNode 29 = .ok (.iload_n 3, 1) := by decide +kernel
theorem dX8_removeNode_30 : decode cX8_removeNode 30 = .ok (.if_icmp .ge 21, 3) := by decide +kernel
theorem dX8_removeNode_33 : decode cX8_removeNode 33 = .ok (.aload_n 0, 1) := by decide +kernel
theorem dX8_removeNode_34 : decode cX8_removeNode 34 = .ok (.iload_n 1, 1) := by decide +kernel
theorem dX8_removeNode_35 : decode cX8_removeNode 35 = .ok (.iload 4, 2) := by decide +kernel
theorem dX8_removeNode_37 : decode cX8_removeNode 37 = .ok (.iconst 1, 1) := by decide +kernel
theorem dX8_removeNode_38 : decode cX8_removeNode 38 = .ok (.iadd, 1) := by decide +kernel
theorem dX8_removeNode_39 : decode cX8_removeNode 39 = .ok (.iload_n 1, 1) := by decide +kernel
theorem dX8_removeNode_40 : decode cX8_removeNode 40 = .ok (.iload 4, 2) := by decide +kernel
theorem dX8_removeNode_42 : decode cX8_removeNode 42 = .ok (.invokevirtual 145, 3) := by decide +kernel
theorem dX8_removeNode_45 : decode cX8_removeNode 45 = .ok (.iinc 4 1, 3) := by decide +kernel
theorem dX8_removeNode_48 : decode cX8_removeNode 48 = .ok (.goto (-21), 3) := by decide +kernel
theorem dX8_removeNode_51 : decode cX8_removeNode 51 = .ok (.aload_n 0, 1) := by decide +kernel
theorem dX8_removeNode_52 : decode cX8_removeNode 52 = .ok (.getfield 7, 3) := by decide +kernel
theorem dX8_removeNode_55 : decode cX8_removeNode 55 = .ok (.iload_n 1, 1) := by decide +kernel
theorem dX8_removeNode_56 : decode cX8_removeNode 56 = .ok (.invokestatic 51, 3) := by decide +kernel
theorem dX8_removeNode_59 : decode cX8_removeNode 59 = .ok (.iload_n 3, 1) := by decide +kernel
theorem dX8_removeNode_60 : decode cX8_removeNode 60 = .ok (.iastore, 1) := by decide +kernel
theorem dX8_removeNode_61 : decode cX8_removeNode 61 = .ok (.aload_n 0, 1) := by decide +kernel
theorem dX8_removeNode_62 : decode cX8_removeNode 62 = .ok (.getfield 7, 3) := by decide +kernel
theorem dX8_removeNode_65 : decode cX8_removeNode 65 = .ok (.iload_n 1, 1) := by decide +kernel
theorem dX8_removeNode_66 : decode cX8_removeNode 66 = .ok (.invokestatic 51, 3) := by decide +kernel
theorem dX8_removeNode_69 : decode cX8_removeNode 69 = .ok (.iconst 1, 1) := by decide +kernel
theorem dX8_removeNode_70 : decode cX8_removeNode 70 = .ok (.iadd, 1) := by decide +kernel
theorem dX8_removeNode_71 : decode cX8_removeNode 71 = .ok (.iload_n 3, 1) := by decide +kernel
theorem dX8_removeNode_72 : decode cX8_removeNode 72 = .ok (.iconst 2, 1) := by decide +kernel
theorem dX8_removeNode_73 : decode cX8_removeNode 73 = .ok (.if_icmp .ge 7, 3) := by decide +kernel
theorem dX8_removeNode_76 : decode cX8_removeNode 76 = .ok (.iconst 0, 1) := by decide +kernel
theorem dX8_removeNode_77 : decode cX8_removeNode 77 = .ok (.goto 14, 3) := by decide +kernel
theorem dX8_removeNode_80 : decode cX8_removeNode 80 = .ok (.aload_n 0, 1) := by decide +kernel
theorem dX8_removeNode_81 : decode cX8_removeNode 81 = .ok (.getfield 7, 3) := by decide +kernel
theorem dX8_removeNode_84 : decode cX8_removeNode 84 = .ok (.iload_n 1, 1) := by decide +kernel
theorem dX8_removeNode_85 : decode cX8_removeNode 85 = .ok (.invokestatic 51, 3) := by decide +kernel
theorem dX8_removeNode_88 : decode cX8_removeNode 88 = .ok (.iconst 1, 1) := by decide +kernel
theorem dX8_removeNode_89 : decode cX8_removeNode 89 = .ok (.iadd, 1) := by decide +kernel
theorem dX8_removeNode_90 : decode cX8_removeNode 90 = .ok (.iaload, 1) := by decide +kernel
theorem dX8_removeNode_91 : decode cX8_removeNode 91 = .ok (.iastore, 1) := by decide +kernel
theorem dX8_removeNode_92 : decode cX8_removeNode 92 = .ok (.iload_n 3, 1) := by decide +kernel
theorem dX8_removeNode_93 : decode cX8_removeNode 93 = .ok (.ifCond .ne 8, 3) := by decide +kernel
theorem dX8_removeNode_96 : decode cX8_removeNode 96 = .ok (.aload_n 0, 1) := by decide +kernel
theorem dX8_removeNode_97 : decode cX8_removeNode 97 = .ok (.iload_n 1, 1) := by decide +kernel
theorem dX8_removeNode_98 : decode cX8_removeNode 98 = .ok (.invokevirtual 123, 3) := by decide +kernel
theorem dX8_removeNode_101 : decode cX8_removeNode 101 = .ok (.aload_n 0, 1) := by decide +kernel
theorem dX8_removeNode_102 : decode cX8_removeNode 102 = .ok (.iload_n 3, 1) := by decide +kernel
theorem dX8_removeNode_103 : decode cX8_removeNode 103 = .ok (.invokevirtual 118, 3) := by decide +kernel
theorem dX8_removeNode_106 : decode cX8_removeNode 106 = .ok (.ireturn, 1) := by decide +kernel
theorem dX8_rows_0 : decode cX8_rows 0 = .ok (.iconst 0, 1) := by decide +kernel
theorem dX8_rows_1 : decode cX8_rows 1 = .ok (.istore 5, 2) := by decide +kernel
theorem dX8_rows_3 : decode cX8_rows 3 = .ok (.iload 5, 2) := by decide +kernel
theorem dX8_rows_5 : decode cX8_rows 5 = .ok (.bipush 8, 2) := by decide +kernel
theorem dX8_rows_7 : decode cX8_rows 7 = .ok (.iload_n 3, 1) := by decide +kernel
theorem dX8_rows_8 : decode cX8_rows 8 = .ok (.imul, 1) := by decide +kernel
theorem dX8_rows_9 : decode cX8_rows 9 = .ok (.if_icmp .ge 34, 3) := by decide +kernel
theorem dX8_rows_12 : decode cX8_rows 12 = .ok (.aload_n 0, 1) := by decide +kernel
theorem dX8_rows_13 : decode cX8_rows 13 = .ok (.getfield 38, 3) := by decide +kernel
theorem dX8_rows_16 : decode cX8_rows 16 = .ok (.bipush 8, 2) := by decide +kernel
theorem dX8_rows_18 : decode cX8_rows 18 = .ok (.iload 4, 2) := by decide +kernel
theorem dX8_rows_20 : decode cX8_rows 20 = .ok (.imul, 1) := by decide +kernel
theorem dX8_rows_21 : decode cX8_rows 21 = .ok (.iload 5, 2) := by decide +kernel
theorem dX8_rows_23 : decode cX8_rows 23 = .ok (.iadd, 1) := by decide +kernel
theorem dX8_rows_24 : decode cX8_rows 24 = .ok (.aload_n 0, 1) := by decide +kernel
theorem dX8_rows_25 : decode cX8_rows 25 = .ok (.getfield 7, 3) := by decide +kernel
theorem dX8_rows_28 : decode cX8_rows 28 = .ok (.iload_n 1, 1) := by decide +kernel
theorem dX8_rows_29 : decode cX8_rows 29 = .ok (.iload_n 2, 1) := by decide +kernel
theorem dX8_rows_30 : decode cX8_rows 30 = .ok (.iload 5, 2) := by decide +kernel
theorem dX8_rows_32 : decode cX8_rows 32 = .ok (.invokestatic 92, 3) := by decide +kernel
theorem dX8_rows_35 : decode cX8_rows 35 = .ok (.iaload, 1) := by decide +kernel
theorem dX8_rows_36 : decode cX8_rows 36 = .ok (.iastore, 1) := by decide +kernel
theorem dX8_rows_37 : decode cX8_rows 37 = .ok (.iinc 5 1, 3) := by decide +kernel
theorem dX8_rows_40 : decode cX8_rows 40 = .ok (.goto (-37), 3) := by decide +kernel
theorem dX8_rows_43 : decode cX8_rows 43 = .ok (.return_, 1) := by decide +kernel
theorem dX8_unrows_0 : decode cX8_unrows 0 = .ok (.iconst 0, 1) := by decide +kernel
theorem dX8_unrows_1 : decode cX8_unrows 1 = .ok (.istore_n 3, 1) := by decide +kernel
theorem dX8_unrows_2 : decode cX8_unrows 2 = .ok (.iload_n 3, 1) := by decide +kernel
theorem dX8_unrows_3 : decode cX8_unrows 3 = .ok (.bipush 8, 2) := by decide +kernel
theorem dX8_unrows_5 : decode cX8_unrows 5 = .ok (.iload_n 2, 1) := by decide +kernel
theorem dX8_unrows_6 : decode cX8_unrows 6 = .ok (.imul, 1) := by decide +kernel
theorem dX8_unrows_7 : decode cX8_unrows 7 = .ok (.if_icmp .ge 26, 3) := by decide +kernel
theorem dX8_unrows_10 : decode cX8_unrows 10 = .ok (.aload_n 0, 1) := by decide +kernel
theorem dX8_unrows_11 : decode cX8_unrows 11 = .ok (.getfield 7, 3) := by decide +kernel
theorem dX8_unrows_14 : decode cX8_unrows 14 = .ok (.iload_n 1, 1) := by decide +kernel
theorem dX8_unrows_15 : decode cX8_unrows 15 = .ok (.iconst 0, 1) := by decide +kernel
theorem dX8_unrows_16 : decode cX8_unrows 16 = .ok (.iload_n 3, 1) := by decide +kernel
theorem dX8_unrows_17 : decode cX8_unrows 17 = .ok (.invokestatic 92, 3) := by decide +kernel
theorem dX8_unrows_20 : decode cX8_unrows 20 = .ok (.aload_n 0, 1) := by decide +kernel
theorem dX8_unrows_21 : decode cX8_unrows 21 = .ok (.getfield 38, 3) := by decide +kernel
theorem dX8_unrows_24 : decode cX8_unrows 24 = .ok (.iload_n 3, 1) := by decide +kernel
theorem dX8_unrows_25 : decode cX8_unrows 25 = .ok (.iaload, 1) := by decide +kernel
theorem dX8_unrows_26 : decode cX8_unrows 26 = .ok (.iastore, 1) := by decide +kernel
theorem dX8_unrows_27 : decode cX8_unrows 27 = .ok (.iinc 3 1, 3) := by decide +kernel
theorem dX8_unrows_30 : decode cX8_unrows 30 = .ok (.goto (-28), 3) := by decide +kernel
theorem dX8_unrows_33 : decode cX8_unrows 33 = .ok (.aload_n 0, 1) := by decide +kernel
theorem dX8_unrows_34 : decode cX8_unrows 34 = .ok (.getfield 7, 3) := by decide +kernel
theorem dX8_unrows_37 : decode cX8_unrows 37 = .ok (.iload_n 1, 1) := by decide +kernel
theorem dX8_unrows_38 : decode cX8_unrows 38 = .ok (.invokestatic 51, 3) := by decide +kernel
theorem dX8_unrows_41 : decode cX8_unrows 41 = .ok (.iload_n 2, 1) := by decide +kernel
theorem dX8_unrows_42 : decode cX8_unrows 42 = .ok (.iastore, 1) := by decide +kernel
theorem dX8_unrows_43 : decode cX8_unrows 43 = .ok (.return_, 1) := by decide +kernel
theorem dX8_split_0 : decode cX8_split 0 = .ok (.aload_n 0, 1) := by decide +kernel
theorem dX8_split_1 : decode cX8_split 1 = .ok (.iload_n 1, 1) := by decide +kernel
theorem dX8_split_2 : decode cX8_split 2 = .ok (.iload_n 2, 1) := by decide +kernel
theorem dX8_split_3 : decode cX8_split 3 = .ok (.invokevirtual 127, 3) := by decide +kernel
theorem dX8_split_6 : decode cX8_split 6 = .ok (.ifCond .ne 6, 3) := by decide +kernel
theorem dX8_split_9 : decode cX8_split 9 = .ok (.ldc 121, 2) := by decide +kernel
theorem dX8_split_11 : decode cX8_split 11 = .ok (.ireturn, 1) := by decide +kernel
theorem dX8_split_12 : decode cX8_split 12 = .ok (.aload_n 0, 1) := by decide +kernel
theorem dX8_split_13 : decode cX8_split 13 = .ok (.iload_n 1, 1) := by decide +kernel
theorem dX8_split_14 : decode cX8_split 14 = .ok (.invokevirtual 59, 3) := by decide +kernel
theorem dX8_split_17 : decode cX8_split 17 = .ok (.istore_n 3, 1) := by decide +kernel
theorem dX8_split_18 : decode cX8_split 18 = .ok (.aload_n 0, 1) := by decide +kernel
theorem dX8_split_19 : decode cX8_split 19 = .ok (.iload_n 1, 1) := by decide +kernel
theorem dX8_split_20 : decode cX8_split 20 = .ok (.invokevirtual 62, 3) := by decide +kernel
theorem dX8_split_23 : decode cX8_split 23 = .ok (.istore 4, 2) := by decide +kernel
theorem dX8_split_25 : decode cX8_split 25 = .ok (.iload 4, 2) := by decide +kernel
theorem dX8_split_27 : decode cX8_split 27 = .ok (.ifCond .ne 17, 3) := by decide +kernel
theorem dX8_split_30 : decode cX8_split 30 = .ok (.iload_n 2, 1) := by decide +kernel
theorem dX8_split_31 : decode cX8_split 31 = .ok (.ifCond .eq 10, 3) := by decide +kernel
theorem dX8_split_34 : decode cX8_split 34 = .ok (.iload_n 2, 1) := by decide +kernel
theorem dX8_split_35 : decode cX8_split 35 = .ok (.iload_n 3, 1) := by decide +kernel
theorem dX8_split_36 : decode cX8_split 36 = .ok (.iconst 1, 1) := by decide +kernel
theorem dX8_split_37 : decode cX8_split 37 = .ok (.isub, 1) := by decide +kernel
theorem dX8_split_38 : decode cX8_split 38 = .ok (.if_icmp .ne 6, 3) := by decide +kernel
theorem dX8_split_41 : decode cX8_split 41 = .ok (.ldc 122, 2) := by decide +kernel
theorem dX8_split_43 : decode cX8_split 43 = .ok (.ireturn, 1) := by decide +kernel
theorem dX8_split_44 : decode cX8_split 44 = .ok (.iload 4, 2) := by decide +kernel
theorem dX8_split_46 : decode cX8_split 46 = .ok (.ifCond .eq 12, 3) := by decide +kernel
theorem dX8_split_49 : decode cX8_split 49 = .ok (.iload_n 3, 1) := by decide +kernel
theorem dX8_split_50 : decode cX8_split 50 = .ok (.bipush 12, 2) := by decide +kernel
theorem dX8_split_52 : decode cX8_split 52 = .ok (.if_icmp .ne 20, 3) := by decide +kernel
theorem dX8_split_55 : decode cX8_split 55 = .ok (.goto 14, 3) := by decide +kernel
theorem dX8_split_58 : decode cX8_split 58 = .ok (.aload_n 0, 1) := by decide +kernel
theorem dX8_split_59 : decode cX8_split 59 = .ok (.getfield 7, 3) := by decide +kernel
theorem dX8_split_62 : decode cX8_split 62 = .ok (.iconst 0, 1) := by decide +kernel
theorem dX8_split_63 : decode cX8_split 63 = .ok (.iaload, 1) := by decide +kernel
theorem dX8_split_64 : decode cX8_split 64 = .ok (.bipush 6, 2) := by decide +kernel
theorem dX8_split_66 : decode cX8_split 66 = .ok (.if_icmp .ne 6, 3) := by decide +kernel
theorem dX8_split_69 : decode cX8_split 69 = .ok (.ldc 109, 2) := by decide +kernel
theorem dX8_split_71 : decode cX8_split 71 = .ok (.ireturn, 1) := by decide +kernel
theorem dX8_split_72 : decode cX8_split 72 = .ok (.aload_n 0, 1) := by decide +kernel
theorem dX8_split_73 : decode cX8_split 73 = .ok (.invokevirtual 110, 3) := by decide +kernel
theorem dX8_split_76 : decode cX8_split 76 = .ok (.iload 4, 2) := by decide +kernel
theorem dX8_split_78 : decode cX8_split 78 = .ok (.ifCond .eq 48, 3) := by decide +kernel
theorem dX8_split_81 : decode cX8_split 81 = .ok (.aload_n 0, 1) := by decide +kernel
theorem dX8_split_82 : decode cX8_split 82 = .ok (.iload_n 1, 1) := by decide +kernel
theorem dX8_split_83 : decode cX8_split 83 = .ok (.iload_n 2, 1) := by decide +kernel
theorem dX8_split_84 : decode cX8_split 84 = .ok (.iload_n 3, 1) := by decide +kernel
theorem dX8_split_85 : decode cX8_split 85 = .ok (.iload_n 2, 1) := by decide +kernel
theorem dX8_split_86 : decode cX8_split 86 = .ok (.isub, 1) := by decide +kernel
theorem dX8_split_87 : decode cX8_split 87 = .ok (.iconst 0, 1) := by decide +kernel
theorem dX8_split_88 : decode cX8_split 88 = .ok (.invokevirtual 166, 3) := by decide +kernel
theorem dX8_split_91 : decode cX8_split 91 = .ok (.aload_n 0, 1) := by decide +kernel
theorem dX8_split_92 : decode cX8_split 92 = .ok (.iload_n 1, 1) := by decide +kernel
theorem dX8_split_93 : decode cX8_split 93 = .ok (.iconst 0, 1) := by decide +kernel
theorem dX8_split_94 : decode cX8_split 94 = .ok (.iload_n 2, 1) := by decide +kernel
theorem dX8_split_95 : decode cX8_split 95 = .ok (.iconst 1, 1) := by decide +kernel
theorem dX8_split_96 : decode cX8_split 96 = .ok (.iadd, 1) := by decide +kernel
theorem dX8_split_97 : decode cX8_split 97 = .ok (.iload_n 3, 1) := by decide +kernel
theorem dX8_split_98 : decode cX8_split 98 = .ok (.iload_n 2, 1) := by decide +kernel
theorem dX8_split_99 : decode cX8_split 99 = .ok (.isub, 1) := by decide +kernel
theorem dX8_split_100 : decode cX8_split 100 = .ok (.invokevirtual 166, 3) := by decide +kernel
theorem dX8_split_103 : decode cX8_split 103 = .ok (.aload_n 0, 1) := by decide +kernel
theorem dX8_split_104 : decode cX8_split 104 = .ok (.iload_n 1, 1) := by decide +kernel
theorem dX8_split_105 : decode cX8_split 105 = .ok (.iload_n 3, 1) := by decide +kernel
theorem dX8_split_106 : decode cX8_split 106 = .ok (.iconst 1, 1) := by decide +kernel
theorem dX8_split_107 : decode cX8_split 107 = .ok (.iadd, 1) := by decide +kernel
theorem dX8_split_108 : decode cX8_split 108 = .ok (.invokevirtual 169, 3) := by decide +kernel
theorem dX8_split_111 : decode cX8_split 111 = .ok (.aload_n 0, 1) := by decide +kernel
theorem dX8_split_112 : decode cX8_split 112 = .ok (.getfield 7, 3) := by decide +kernel
theorem dX8_split_115 : decode cX8_split 115 = .ok (.iload_n 1, 1) := by decide +kernel
theorem dX8_split_116 : decode cX8_split 116 = .ok (.invokestatic 51, 3) := by decide +kernel
theorem dX8_split_119 : decode cX8_split 119 = .ok (.iconst 1, 1) := by decide +kernel
theorem dX8_split_120 : decode cX8_split 120 = .ok (.iadd, 1) := by decide +kernel
theorem dX8_split_121 : decode cX8_split 121 = .ok (.iconst 0, 1) := by decide +kernel
theorem dX8_split_122 : decode cX8_split 122 = .ok (.iastore, 1) := by decide +kernel
theorem dX8_split_123 : decode cX8_split 123 = .ok (.goto 65, 3) := by decide +kernel
theorem dX8_split_126 : decode cX8_split 126 = .ok (.aload_n 0, 1) := by decide +kernel
theorem dX8_split_127 : decode cX8_split 127 = .ok (.getfield 7, 3) := by decide +kernel
theorem dX8_split_130 : decode cX8_split 130 = .ok (.iconst 0, 1) := by decide +kernel
theorem dX8_split_131 : decode cX8_split 131 = .ok (.iaload, 1) := by decide +kernel
theorem dX8_split_132 : decode cX8_split 132 = .ok (.istore 5, 2) := by decide +kernel
theorem dX8_split_134 : decode cX8_split 134 = .ok (.aload_n 0, 1) := by decide +kernel
theorem dX8_split_135 : decode cX8_split 135 = .ok (.getfield 7, 3) := by decide +kernel
theorem dX8_split_138 : decode cX8_split 138 = .ok (.iconst 0, 1) := by decide +kernel
theorem dX8_split_139 : decode cX8_split 139 = .ok (.dup2, 1) := by decide +kernel
theorem dX8_split_140 : decode cX8_split 140 = .ok (.iaload, 1) := by decide +kernel
theorem dX8_split_141 : decode cX8_split 141 = .ok (.iconst 1, 1) := by decide +kernel
theorem dX8_split_142 : decode cX8_split 142 = .ok (.iadd, 1) := by decide +kernel
theorem dX8_split_143 : decode cX8_split 143 = .ok (.iastore, 1) := by decide +kernel
theorem dX8_split_144 : decode cX8_split 144 = .ok (.aload_n 0, 1) := by decide +kernel
theorem dX8_split_145 : decode cX8_split 145 = .ok (.getfield 7, 3) := by decide +kernel
theorem dX8_split_148 : decode cX8_split 148 = .ok (.iload 5, 2) := by decide +kernel
theorem dX8_split_150 : decode cX8_split 150 = .ok (.invokestatic 51, 3) := by decide +kernel
theorem dX8_split_153 : decode cX8_split 153 = .ok (.iconst 1, 1) := by decide +kernel
theorem dX8_split_154 : decode cX8_split 154 = .ok (.iadd, 1) := by decide +kernel
theorem dX8_split_155 : decode cX8_split 155 = .ok (.iconst 0, 1) := by decide +kernel
theorem dX8_split_156 : decode cX8_split 156 = .ok (.iastore, 1) := by decide +kernel
theorem dX8_split_157 : decode cX8_split 157 = .ok (.aload_n 0, 1) := by decide +kernel
theorem dX8_split_158 : decode cX8_split 158 = .ok (.iload_n 1, 1) := by decide +kernel
theorem dX8_split_159 : decode cX8_split 159 = .ok (.iload_n 2, 1) := by decide +kernel
theorem dX8_split_160 : decode cX8_split 160 = .ok (.iload_n 3, 1) := by decide +kernel
theorem dX8_split_161 : decode cX8_split 161 = .ok (.iload_n 2, 1) := by decide +kernel
theorem dX8_split_162 : decode cX8_split 162 = .ok (.isub, 1) := by decide +kernel
theorem dX8_split_163 : decode cX8_split 163 = .ok (.iconst 0, 1) := by decide +kernel
theorem dX8_split_164 : decode cX8_split 164 = .ok (.invokevirtual 166, 3) := by decide +kernel
theorem dX8_split_167 : decode cX8_split 167 = .ok (.aload_n 0, 1) := by decide +kernel
theorem dX8_split_168 : decode cX8_split 168 = .ok (.iload 5, 2) := by decide +kernel
theorem dX8_split_170 : decode cX8_split 170 = .ok (.iload_n 3, 1) := by decide +kernel
theorem dX8_split_171 : decode cX8_split 171 = .ok (.iload_n 2, 1) := by decide +kernel
theorem dX8_split_172 : decode cX8_split 172 = .ok (.isub, 1) := by decide +kernel
theorem dX8_split_173 : decode cX8_split 173 = .ok (.invokevirtual 169, 3) := by decide +kernel
theorem dX8_split_176 : decode cX8_split 176 = .ok (.aload_n 0, 1) := by decide +kernel
theorem dX8_split_177 : decode cX8_split 177 = .ok (.getfield 7, 3) := by decide +kernel
theorem dX8_split_180 : decode cX8_split 180 = .ok (.iload_n 1, 1) := by decide +kernel
theorem dX8_split_181 : decode cX8_split 181 = .ok (.invokestatic 51, 3) := by decide +kernel
theorem dX8_split_184 : decode cX8_split 184 = .ok (.iload_n 2, 1) := by decide +kernel
theorem dX8_split_185 : decode cX8_split 185 = .ok (.iconst 1, 1) := by decide +kernel
theorem dX8_split_186 : decode cX8_split 186 = .ok (.iadd, 1) := by decide +kernel
theorem dX8_split_187 : decode cX8_split 187 = .ok (.iastore, 1) := by decide +kernel
theorem dX8_split_188 : decode cX8_split 188 = .ok (.aload_n 0, 1) := by decide +kernel
theorem dX8_split_189 : decode cX8_split 189 = .ok (.aload_n 0, 1) := by decide +kernel
theorem dX8_split_190 : decode cX8_split 190 = .ok (.getfield 7, 3) := by decide +kernel
theorem dX8_split_193 : decode cX8_split 193 = .ok (.iconst 0, 1) := by decide +kernel
theorem dX8_split_194 : decode cX8_split 194 = .ok (.iaload, 1) := by decide +kernel
theorem dX8_split_195 : decode cX8_split 195 = .ok (.invokevirtual 118, 3) := by decide +kernel
theorem dX8_split_198 : decode cX8_split 198 = .ok (.ireturn, 1) := by decide +kernel
theorem dX8_meet_0 : decode cX8_meet 0 = .ok (.aload_n 0, 1) := by decide +kernel
theorem dX8_meet_1 : decode cX8_meet 1 = .ok (.iload_n 1, 1) := by decide +kernel
theorem dX8_meet_2 : decode cX8_meet 2 = .ok (.invokevirtual 59, 3) := by decide +kernel
theorem dX8_meet_5 : decode cX8_meet 5 = .ok (.iconst 1, 1) := by decide +kernel
theorem dX8_meet_6 : decode cX8_meet 6 = .ok (.isub, 1) := by decide +kernel
theorem dX8_meet_7 : decode cX8_meet 7 = .ok (.istore_n 3, 1) := by decide +kernel
theorem dX8_meet_8 : decode cX8_meet 8 = .ok (.aload_n 0, 1) := by decide +kernel
theorem dX8_meet_9 : decode cX8_meet 9 = .ok (.getfield 7, 3) := by decide +kernel
theorem dX8_meet_12 : decode cX8_meet 12 = .ok (.iload_n 1, 1) := by decide +kernel
theorem dX8_meet_13 : decode cX8_meet 13 = .ok (.iload_n 3, 1) := by decide +kernel
theorem dX8_meet_14 : decode cX8_meet 14 = .ok (.iconst 0, 1) := by decide +kernel
theorem dX8_meet_15 : decode cX8_meet 15 = .ok (.invokestatic 92, 3) := by decide +kernel
theorem dX8_meet_18 : decode cX8_meet 18 = .ok (.iaload, 1) := by decide +kernel
theorem dX8_meet_19 : decode cX8_meet 19 = .ok (.aload_n 0, 1) := by decide +kernel
theorem dX8_meet_20 : decode cX8_meet 20 = .ok (.getfield 7, 3) := by decide +kernel
theorem dX8_meet_23 : decode cX8_meet 23 = .ok (.iload_n 2, 1) := by decide +kernel
theorem dX8_meet_24 : decode cX8_meet 24 = .ok (.iconst 0, 1) := by decide +kernel
theorem dX8_meet_25 : decode cX8_meet 25 = .ok (.iconst 0, 1) := by decide +kernel
theorem dX8_meet_26 : decode cX8_meet 26 = .ok (.invokestatic 92, 3) := by decide +kernel
theorem dX8_meet_29 : decode cX8_meet 29 = .ok (.iaload, 1) := by decide +kernel
theorem dX8_meet_30 : decode cX8_meet 30 = .ok (.if_icmp .ne 32, 3) := by decide +kernel
theorem dX8_meet_33 : decode cX8_meet 33 = .ok (.aload_n 0, 1) := by decide +kernel
theorem dX8_meet_34 : decode cX8_meet 34 = .ok (.getfield 7, 3) := by decide +kernel
theorem dX8_meet_37 : decode cX8_meet 37 = .ok (.iload_n 1, 1) := by decide +kernel
theorem dX8_meet_38 : decode cX8_meet 38 = .ok (.iload_n 3, 1) := by decide +kernel
theorem dX8_meet_39 : decode cX8_meet 39 = .ok (.iconst 1, 1) := by decide +kernel
theorem dX8_meet_40 : decode cX8_meet 40 = .ok (.invokestatic 92, 3) := by decide +kernel
theorem dX8_meet_43 : decode cX8_meet 43 = .ok (.iaload, 1) := by decide +kernel
theorem dX8_meet_44 : decode cX8_meet 44 = .ok (.aload_n 0, 1) := by decide +kernel
theorem dX8_meet_45 : decode cX8_meet 45 = .ok (.getfield 7, 3) := by decide +kernel
theorem dX8_meet_48 : decode cX8_meet 48 = .ok (.iload_n 2, 1) := by decide +kernel
theorem dX8_meet_49 : decode cX8_meet 49 = .ok (.iconst 0, 1) := by decide +kernel
theorem dX8_meet_50 : decode cX8_meet 50 = .ok (.iconst 1, 1) := by decide +kernel
theorem dX8_meet_51 : decode cX8_meet 51 = .ok (.invokestatic 92, 3) := by decide +kernel
theorem dX8_meet_54 : decode cX8_meet 54 = .ok (.iaload, 1) := by decide +kernel
theorem dX8_meet_55 : decode cX8_meet 55 = .ok (.if_icmp .ne 7, 3) := by decide +kernel
theorem dX8_meet_58 : decode cX8_meet 58 = .ok (.iconst 1, 1) := by decide +kernel
theorem dX8_meet_59 : decode cX8_meet 59 = .ok (.goto 4, 3) := by decide +kernel
theorem dX8_meet_62 : decode cX8_meet 62 = .ok (.iconst 0, 1) := by decide +kernel
theorem dX8_meet_63 : decode cX8_meet 63 = .ok (.ireturn, 1) := by decide +kernel
theorem dX8_unites_0 : decode cX8_unites 0 = .ok (.bipush 8, 2) := by decide +kernel
theorem dX8_unites_2 : decode cX8_unites 2 = .ok (.iload_n 1, 1) := by decide +kernel
theorem dX8_unites_3 : decode cX8_unites 3 = .ok (.imul, 1) := by decide +kernel
theorem dX8_unites_4 : decode cX8_unites 4 = .ok (.istore_n 3, 1) := by decide +kernel
theorem dX8_unites_5 : decode cX8_unites 5 = .ok (.bipush 8, 2) := by decide +kernel
theorem dX8_unites_7 : decode cX8_unites 7 = .ok (.iload_n 2, 1) := by decide +kernel
theorem dX8_unites_8 : decode cX8_unites 8 = .ok (.imul, 1) := by decide +kernel
theorem dX8_unites_9 : decode cX8_unites 9 = .ok (.istore 4, 2) := by decide +kernel
theorem dX8_unites_11 : decode cX8_unites 11 = .ok (.aload_n 0, 1) := by decide +kernel
theorem dX8_unites_12 : decode cX8_unites 12 = .ok (.getfield 38, 3) := by decide +kernel
theorem dX8_unites_15 : decode cX8_unites 15 = .ok (.iload_n 3, 1) := by decide +kernel
theorem dX8_unites_16 : decode cX8_unites 16 = .ok (.bipush 6, 2) := by decide +kernel
theorem dX8_unites_18 : decode cX8_unites 18 = .ok (.iadd, 1) := by decide +kernel
theorem dX8_unites_19 : decode cX8_unites 19 = .ok (.iaload, 1) := by decide +kernel
theorem dX8_unites_20 : decode cX8_unites 20 = .ok (.ifCond .le 51, 3) := by decide +kernel
theorem dX8_unites_23 : decode cX8_unites 23 = .ok (.aload_n 0, 1) := by decide +kernel
theorem dX8_unites_24 : decode cX8_unites 24 = .ok (.getfield 38, 3) := by decide +kernel
theorem dX8_unites_27 : decode cX8_unites 27 = .ok (.iload_n 3, 1) := by decide +kernel
theorem dX8_unites_28 : decode cX8_unites 28 = .ok (.bipush 6, 2) := by decide +kernel
theorem dX8_unites_30 : decode cX8_unites 30 = .ok (.iadd, 1) := by decide +kernel
theorem dX8_unites_31 : decode cX8_unites 31 = .ok (.iaload, 1) := by decide +kernel
theorem dX8_unites_32 : decode cX8_unites 32 = .ok (.aload_n 0, 1) := by decide +kernel
theorem dX8_unites_33 : decode cX8_unites 33 = .ok (.getfield 38, 3) := by decide +kernel
theorem dX8_unites_36 : decode cX8_unites 36 = .ok (.iload 4, 2) := by decide +kernel
theorem dX8_unites_38 : decode cX8_unites 38 = .ok (.bipush 6, 2) := by decide +kernel
theorem dX8_unites_40 : decode cX8_unites 40 = .ok (.iadd, 1) := by decide +kernel
theorem dX8_unites_41 : decode cX8_unites 41 = .ok (.iaload, 1) := by decide +kernel
theorem dX8_unites_42 : decode cX8_unites 42 = .ok (.if_icmp .ne 29, 3) := by decide +kernel
theorem dX8_unites_45 : decode cX8_unites 45 = .ok (.aload_n 0, 1) := by decide +kernel
theorem dX8_unites_46 : decode cX8_unites 46 = .ok (.getfield 38, 3) := by decide +kernel
theorem dX8_unites_49 : decode cX8_unites 49 = .ok (.iload_n 3, 1) := by decide +kernel
theorem dX8_unites_50 : decode cX8_unites 50 = .ok (.bipush 7, 2) := by decide +kernel
theorem dX8_unites_52 : decode cX8_unites 52 = .ok (.iadd, 1) := by decide +kernel
theorem dX8_unites_53 : decode cX8_unites 53 = .ok (.iaload, 1) := by decide +kernel
theorem dX8_unites_54 : decode cX8_unites 54 = .ok (.aload_n 0, 1) := by decide +kernel
theorem dX8_unites_55 : decode cX8_unites 55 = .ok (.getfield 38, 3) := by decide +kernel
theorem dX8_unites_58 : decode cX8_unites 58 = .ok (.iload 4, 2) := by decide +kernel
theorem dX8_unites_60 : decode cX8_unites 60 = .ok (.bipush 7, 2) := by decide +kernel
theorem dX8_unites_62 : decode cX8_unites 62 = .ok (.iadd, 1) := by decide +kernel
theorem dX8_unites_63 : decode cX8_unites 63 = .ok (.iaload, 1) := by decide +kernel
theorem dX8_unites_64 : decode cX8_unites 64 = .ok (.if_icmp .ne 7, 3) := by decide +kernel
theorem dX8_unites_67 : decode cX8_unites 67 = .ok (.iconst 1, 1) := by decide +kernel
theorem dX8_unites_68 : decode cX8_unites 68 = .ok (.goto 4, 3) := by decide +kernel
theorem dX8_unites_71 : decode cX8_unites 71 = .ok (.iconst 0, 1) := by decide +kernel
theorem dX8_unites_72 : decode cX8_unites 72 = .ok (.istore 5, 2) := by decide +kernel
theorem dX8_unites_74 : decode cX8_unites 74 = .ok (.aload_n 0, 1) := by decide +kernel
theorem dX8_unites_75 : decode cX8_unites 75 = .ok (.getfield 38, 3) := by decide +kernel
theorem dX8_unites_78 : decode cX8_unites 78 = .ok (.iload_n 3, 1) := by decide +kernel
theorem dX8_unites_79 : decode cX8_unites 79 = .ok (.iconst 2, 1) := by decide +kernel
theorem dX8_unites_80 : decode cX8_unites 80 = .ok (.iadd, 1) := by decide +kernel
theorem dX8_unites_81 : decode cX8_unites 81 = .ok (.aload_n 0, 1) := by decide +kernel
theorem dX8_unites_82 : decode cX8_unites 82 = .ok (.getfield 38, 3) := by decide +kernel
theorem dX8_unites_85 : decode cX8_unites 85 = .ok (.iload 4, 2) := by decide +kernel
theorem dX8_unites_87 : decode cX8_unites 87 = .ok (.iconst 2, 1) := by decide +kernel
theorem dX8_unites_88 : decode cX8_unites 88 = .ok (.iadd, 1) := by decide +kernel
theorem dX8_unites_89 : decode cX8_unites 89 = .ok (.iaload, 1) := by decide +kernel
theorem dX8_unites_90 : decode cX8_unites 90 = .ok (.iastore, 1) := by decide +kernel
theorem dX8_unites_91 : decode cX8_unites 91 = .ok (.aload_n 0, 1) := by decide +kernel
theorem dX8_unites_92 : decode cX8_unites 92 = .ok (.getfield 38, 3) := by decide +kernel
theorem dX8_unites_95 : decode cX8_unites 95 = .ok (.iload_n 3, 1) := by decide +kernel
theorem dX8_unites_96 : decode cX8_unites 96 = .ok (.iconst 2, 1) := by decide +kernel
theorem dX8_unites_97 : decode cX8_unites 97 = .ok (.iadd, 1) := by decide +kernel
theorem dX8_unites_98 : decode cX8_unites 98 = .ok (.iconst 1, 1) := by decide +kernel
theorem dX8_unites_99 : decode cX8_unites 99 = .ok (.iadd, 1) := by decide +kernel
theorem dX8_unites_100 : decode cX8_unites 100 = .ok (.aload_n 0, 1) := by decide +kernel
theorem dX8_unites_101 : decode cX8_unites 101 = .ok (.getfield 38, 3) := by decide +kernel
theorem dX8_unites_104 : decode cX8_unites 104 = .ok (.iload 4, 2) := by decide +kernel
theorem dX8_unites_106 : decode cX8_unites 106 = .ok (.iconst 2, 1) := by decide +kernel
theorem dX8_unites_107 : decode cX8_unites 107 = .ok (.iadd, 1) := by decide +kernel
theorem dX8_unites_108 : decode cX8_unites 108 = .ok (.iconst 1, 1) := by decide +kernel
theorem dX8_unites_109 : decode cX8_unites 109 = .ok (.iadd, 1) := by decide +kernel
theorem dX8_unites_110 : decode cX8_unites 110 = .ok (.iaload, 1) := by decide +kernel
theorem dX8_unites_111 : decode cX8_unites 111 = .ok (.iastore, 1) := by decide +kernel
theorem dX8_unites_112 : decode cX8_unites 112 = .ok (.iconst 0, 1) := by decide +kernel
theorem dX8_unites_113 : decode cX8_unites 113 = .ok (.istore 6, 2) := by decide +kernel
theorem dX8_unites_115 : decode cX8_unites 115 = .ok (.iload 6, 2) := by decide +kernel
theorem dX8_unites_117 : decode cX8_unites 117 = .ok (.iconst 2, 1) := by decide +kernel
theorem dX8_unites_118 : decode cX8_unites 118 = .ok (.if_icmp .ge 72, 3) := by decide +kernel
theorem dX8_unites_121 : decode cX8_unites 121 = .ok (.iload 5, 2) := by decide +kernel
theorem dX8_unites_123 : decode cX8_unites 123 = .ok (.ifCond .eq 58, 3) := by decide +kernel
theorem dX8_unites_126 : decode cX8_unites 126 = .ok (.aload_n 0, 1) := by decide +kernel
theorem dX8_unites_127 : decode cX8_unites 127 = .ok (.getfield 38, 3) := by decide +kernel
theorem dX8_unites_130 : decode cX8_unites 130 = .ok (.iload_n 3, 1) := by decide +kernel
theorem dX8_unites_131 : decode cX8_unites 131 = .ok (.bipush 7, 2) := by decide +kernel
theorem dX8_unites_133 : decode cX8_unites 133 = .ok (.iadd, 1) := by decide +kernel
theorem dX8_unites_134 : decode cX8_unites 134 = .ok (.iaload, 1) := by decide +kernel
theorem dX8_unites_135 : decode cX8_unites 135 = .ok (.i2l, 1) := by decide +kernel
theorem dX8_unites_136 : decode cX8_unites 136 = .ok (.aload_n 0, 1) := by decide +kernel
theorem dX8_unites_137 : decode cX8_unites 137 = .ok (.getfield 38, 3) := by decide +kernel
theorem dX8_unites_140 : decode cX8_unites 140 = .ok (.iload_n 3, 1) := by decide +kernel
theorem dX8_unites_141 : decode cX8_unites 141 = .ok (.iconst 2, 1) := by decide +kernel
theorem dX8_unites_142 : decode cX8_unites 142 = .ok (.iadd, 1) := by decide +kernel
theorem dX8_unites_143 : decode cX8_unites 143 = .ok (.iload 6, 2) := by decide +kernel
theorem dX8_unites_145 : decode cX8_unites 145 = .ok (.iadd, 1) := by decide +kernel
theorem dX8_unites_146 : decode cX8_unites 146 = .ok (.iaload, 1) := by decide +kernel
theorem dX8_unites_147 : decode cX8_unites 147 = .ok (.i2l, 1) := by decide +kernel
theorem dX8_unites_148 : decode cX8_unites 148 = .ok (.lmul, 1) := by decide +kernel
theorem dX8_unites_149 : decode cX8_unites 149 = .ok (.aload_n 0, 1) := by decide +kernel
theorem dX8_unites_150 : decode cX8_unites 150 = .ok (.getfield 38, 3) := by decide +kernel
theorem dX8_unites_153 : decode cX8_unites 153 = .ok (.iload_n 3, 1) := by decide +kernel
theorem dX8_unites_154 : decode cX8_unites 154 = .ok (.bipush 6, 2) := by decide +kernel
theorem dX8_unites_156 : decode cX8_unites 156 = .ok (.iadd, 1) := by decide +kernel
theorem dX8_unites_157 : decode cX8_unites 157 = .ok (.iaload, 1) := by decide +kernel
theorem dX8_unites_158 : decode cX8_unites 158 = .ok (.i2l, 1) := by decide +kernel
theorem dX8_unites_159 : decode cX8_unites 159 = .ok (.lneg, 1) := by decide +kernel
theorem dX8_unites_160 : decode cX8_unites 160 = .ok (.aload_n 0, 1) := by decide +kernel
theorem dX8_unites_161 : decode cX8_unites 161 = .ok (.getfield 38, 3) := by decide +kernel
theorem dX8_unites_164 : decode cX8_unites 164 = .ok (.iload_n 3, 1) := by decide +kernel
theorem dX8_unites_165 : decode cX8_unites 165 = .ok (.iconst 4, 1) := by decide +kernel
theorem dX8_unites_166 : decode cX8_unites 166 = .ok (.iadd, 1) := by decide +kernel
theorem dX8_unites_167 : decode cX8_unites 167 = .ok (.iload 6, 2) := by decide +kernel
theorem dX8_unites_169 : decode cX8_unites 169 = .ok (.iadd, 1) := by decide +kernel
theorem dX8_unites_170 : decode cX8_unites 170 = .ok (.iaload, 1) := by decide +kernel
theorem dX8_unites_171 : decode cX8_unites 171 = .ok (.i2l, 1) := by decide +kernel
theorem dX8_unites_172 : decode cX8_unites 172 = .ok (.lmul, 1) := by decide +kernel
theorem dX8_unites_173 : decode cX8_unites 173 = .ok (.lcmp, 1) := by decide +kernel
theorem dX8_unites_174 : decode cX8_unites 174 = .ok (.ifCond .ne 7, 3) := by decide +kernel
theorem dX8_unites_177 : decode cX8_unites 177 = .ok (.iconst 1, 1) := by decide +kernel
theorem dX8_unites_178 : decode cX8_unites 178 = .ok (.goto 4, 3) := by decide +kernel
theorem dX8_unites_181 : decode cX8_unites 181 = .ok (.iconst 0, 1) := by decide +kernel
theorem dX8_unites_182 : decode cX8_unites 182 = .ok (.istore 5, 2) := by decide +kernel
theorem dX8_unites_184 : decode cX8_unites 184 = .ok (.iinc 6 1, 3) := by decide +kernel
theorem dX8_unites_187 : decode cX8_unites 187 = .ok (.goto (-72), 3) := by decide +kernel
theorem dX8_unites_190 : decode cX8_unites 190 = .ok (.aload_n 0, 1) := by decide +kernel
theorem dX8_unites_191 : decode cX8_unites 191 = .ok (.getfield 38, 3) := by decide +kernel
theorem dX8_unites_194 : decode cX8_unites 194 = .ok (.iload_n 3, 1) := by decide +kernel
theorem dX8_unites_195 : decode cX8_unites 195 = .ok (.bipush 6, 2) := by decide +kernel
theorem dX8_unites_197 : decode cX8_unites 197 = .ok (.iadd, 1) := by decide +kernel
theorem dX8_unites_198 : decode cX8_unites 198 = .ok (.iload 5, 2) := by decide +kernel
theorem dX8_unites_200 : decode cX8_unites 200 = .ok (.ifCond .eq 15, 3) := by decide +kernel
theorem dX8_unites_203 : decode cX8_unites 203 = .ok (.aload_n 0, 1) := by decide +kernel
theorem dX8_unites_204 : decode cX8_unites 204 = .ok (.getfield 38, 3) := by decide +kernel
theorem dX8_unites_207 : decode cX8_unites 207 = .ok (.iload_n 3, 1) := by decide +kernel
theorem dX8_unites_208 : decode cX8_unites 208 = .ok (.bipush 6, 2) := by decide +kernel
theorem dX8_unites_210 : decode cX8_unites 210 = .ok (.iadd, 1) := by decide +kernel
theorem dX8_unites_211 : decode cX8_unites 211 = .ok (.iaload, 1) := by decide +kernel
theorem dX8_unites_212 : decode cX8_unites 212 = .ok (.goto 4, 3) := by decide +kernel
theorem dX8_unites_215 : decode cX8_unites 215 = .ok (.iconst 0, 1) := by decide +kernel
theorem dX8_unites_216 : decode cX8_unites 216 = .ok (.iastore, 1) := by decide +kernel
theorem dX8_unites_217 : decode cX8_unites 217 = .ok (.aload_n 0, 1) := by decide +kernel
theorem dX8_unites_218 : decode cX8_unites 218 = .ok (.getfield 38, 3) := by decide +kernel
theorem dX8_unites_221 : decode cX8_unites 221 = .ok (.iload_n 3, 1) := by decide +kernel
theorem dX8_unites_222 : decode cX8_unites 222 = .ok (.bipush 7, 2) := by decide +kernel
theorem dX8_unites_224 : decode cX8_unites 224 = .ok (.iadd, 1) := by decide +kernel
theorem dX8_unites_225 : decode cX8_unites 225 = .ok (.iload 5, 2) := by decide +kernel
theorem dX8_unites_227 : decode cX8_unites 227 = .ok (.ifCond .eq 15, 3) := by decide +kernel
theorem dX8_unites_230 : decode cX8_unites 230 = .ok (.aload_n 0, 1) := by decide +kernel
theorem dX8_unites_231 : decode cX8_unites 231 = .ok (.getfield 38, 3) := by decide +kernel
theorem dX8_unites_234 : decode cX8_unites 234 = .ok (.iload_n 3, 1) := by decide +kernel
theorem dX8_unites_235 : decode cX8_unites 235 = .ok (.bipush 7, 2) := by decide +kernel
theorem dX8_unites_237 : decode cX8_unites 237 = .ok (.iadd, 1) := by decide +kernel
theorem dX8_unites_238 : decode cX8_unites 238 = .ok (.iaload, 1) := by decide +kernel
theorem dX8_unites_239 : decode cX8_unites 239 = .ok (.goto 4, 3) := by decide +kernel
theorem dX8_unites_242 : decode cX8_unites 242 = .ok (.iconst 0, 1) := by decide +kernel
theorem dX8_unites_243 : decode cX8_unites 243 = .ok (.iastore, 1) := by decide +kernel
theorem dX8_unites_244 : decode cX8_unites 244 = .ok (.return_, 1) := by decide +kernel
theorem dX8_join_0 : decode cX8_join 0 = .ok (.aload_n 0, 1) := by decide +kernel
theorem dX8_join_1 : decode cX8_join 1 = .ok (.iload_n 1, 1) := by decide +kernel
theorem dX8_join_2 : decode cX8_join 2 = .ok (.invokevirtual 55, 3) := by decide +kernel
theorem dX8_join_5 : decode cX8_join 5 = .ok (.ifCond .eq 11, 3) := by decide +kernel
theorem dX8_join_8 : decode cX8_join 8 = .ok (.aload_n 0, 1) := by decide +kernel
theorem dX8_join_9 : decode cX8_join 9 = .ok (.iload_n 2, 1) := by decide +kernel
theorem dX8_join_10 : decode cX8_join 10 = .ok (.invokevirtual 55, 3) := by decide +kernel
theorem dX8_join_13 : decode cX8_join 13 = .ok (.ifCond .ne 6, 3) := by decide +kernel
theorem dX8_join_16 : decode cX8_join 16 = .ok (.ldc 121, 2) := by decide +kernel
theorem dX8_join_18 : decode cX8_join 18 = .ok (.ireturn, 1) := by decide +kernel
theorem dX8_join_19 : decode cX8_join 19 = .ok (.aload_n 0, 1) := by decide +kernel
theorem dX8_join_20 : decode cX8_join 20 = .ok (.iload_n 1, 1) := by decide +kernel
theorem dX8_join_21 : decode cX8_join 21 = .ok (.iload_n 2, 1) := by decide +kernel
theorem dX8_join_22 : decode cX8_join 22 = .ok (.invokevirtual 172, 3) := by decide +kernel
theorem dX8_join_25 : decode cX8_join 25 = .ok (.istore_n 3, 1) := by decide +kernel
theorem dX8_join_26 : decode cX8_join 26 = .ok (.aload_n 0, 1) := by decide +kernel
theorem dX8_join_27 : decode cX8_join 27 = .ok (.iload_n 1, 1) := by decide +kernel
theorem dX8_join_28 : decode cX8_join 28 = .ok (.invokevirtual 59, 3) := by decide +kernel
theorem dX8_join_31 : decode cX8_join 31 = .ok (.istore 4, 2) := by decide +kernel
theorem dX8_join_33 : decode cX8_join 33 = .ok (.iload_n 1, 1) := by decide +kernel
theorem dX8_join_34 : decode cX8_join 34 = .ok (.iload_n 2, 1) := by decide +kernel
theorem dX8_join_35 : decode cX8_join 35 = .ok (.if_icmp .ne 8, 3) := by decide +kernel
theorem dX8_join_38 : decode cX8_join 38 = .ok (.iload 4, 2) := by decide +kernel
theorem dX8_join_40 : decode cX8_join 40 = .ok (.goto 11, 3) := by decide +kernel
theorem dX8_join_43 : decode cX8_join 43 = .ok (.iload 4, 2) := by decide +kernel
theorem dX8_join_45 : decode cX8_join 45 = .ok (.aload_n 0, 1) := by decide +kernel
theorem dX8_join_46 : decode cX8_join 46 = .ok (.iload_n 2, 1) := by decide +kernel
theorem dX8_join_47 : decode cX8_join 47 = .ok (.invokevirtual 59, 3) := by decide +kernel
theorem dX8_join_50 : decode cX8_join 50 = .ok (.iadd, 1) := by decide +kernel
theorem dX8_join_51 : decode cX8_join 51 = .ok (.iload_n 3, 1) := by decide +kernel
theorem dX8_join_52 : decode cX8_join 52 = .ok (.ifCond .eq 7, 3) := by decide +kernel
theorem dX8_join_55 : decode cX8_join 55 = .ok (.iconst 1, 1) := by decide +kernel
theorem dX8_join_56 : decode cX8_join 56 = .ok (.goto 4, 3) := by decide +kernel
theorem dX8_join_59 : decode cX8_join 59 = .ok (.iconst 0, 1) := by decide +kernel
theorem dX8_join_60 : decode cX8_join 60 = .ok (.isub, 1) := by decide +kernel
theorem dX8_join_61 : decode cX8_join 61 = .ok (.istore 5, 2) := by decide +kernel
theorem dX8_join_63 : decode cX8_join 63 = .ok (.aload_n 0, 1) := by decide +kernel
theorem dX8_join_64 : decode cX8_join 64 = .ok (.iload_n 1, 1) := by decide +kernel
theorem dX8_join_65 : decode cX8_join 65 = .ok (.invokevirtual 62, 3) := by decide +kernel
theorem dX8_join_68 : decode cX8_join 68 = .ok (.ifCond .ne 22, 3) := by decide +kernel
theorem dX8_join_71 : decode cX8_join 71 = .ok (.aload_n 0, 1) := by decide +kernel
theorem dX8_join_72 : decode cX8_join 72 = .ok (.iload_n 2, 1) := by decide +kernel
theorem dX8_join_73 : decode cX8_join 73 = .ok (.invokevirtual 62, 3) := by decide +kernel
theorem dX8_join_76 : decode cX8_join 76 = .ok (.ifCond .ne 14, 3) := by decide +kernel
theorem dX8_join_79 : decode cX8_join 79 = .ok (.iload_n 1, 1) := by decide +kernel
theorem dX8_join_80 : decode cX8_join 80 = .ok (.iload_n 2, 1) := by decide +kernel
theorem dX8_join_81 : decode cX8_join 81 = .ok (.if_icmp .ne 12, 3) := by decide +kernel
theorem dX8_join_84 : decode cX8_join 84 = .ok (.iload 5, 2) := by decide +kernel
theorem dX8_join_86 : decode cX8_join 86 = .ok (.iconst 2, 1) := by decide +kernel
theorem dX8_join_87 : decode cX8_join 87 = .ok (.if_icmp .ge 6, 3) := by decide +kernel
theorem dX8_join_90 : decode cX8_join 90 = .ok (.ldc 122, 2) := by decide +kernel
theorem dX8_join_92 : decode cX8_join 92 = .ok (.ireturn, 1) := by decide +kernel
theorem dX8_join_93 : decode cX8_join 93 = .ok (.iload 5, 2) := by decide +kernel
theorem dX8_join_95 : decode cX8_join 95 = .ok (.bipush 12, 2) := by decide +kernel
theorem dX8_join_97 : decode cX8_join 97 = .ok (.if_icmp .le 6, 3) := by decide +kernel
theorem dX8_join_100 : decode cX8_join 100 = .ok (.ldc 109, 2) := by decide +kernel
theorem dX8_join_102 : decode cX8_join 102 = .ok (.ireturn, 1) := by decide +kernel
theorem dX8_join_103 : decode cX8_join 103 = .ok (.aload_n 0, 1) := by decide +kernel
theorem dX8_join_104 : decode cX8_join 104 = .ok (.invokevirtual 110, 3) := by decide +kernel
theorem dX8_join_107 : decode cX8_join 107 = .ok (.iload_n 1, 1) := by decide +kernel
theorem dX8_join_108 : decode cX8_join 108 = .ok (.iload_n 2, 1) := by decide +kernel
theorem dX8_join_109 : decode cX8_join 109 = .ok (.if_icmp .ne 51, 3) := by decide +kernel
theorem dX8_join_112 : decode cX8_join 112 = .ok (.aload_n 0, 1) := by decide +kernel
theorem dX8_join_113 : decode cX8_join 113 = .ok (.iload_n 1, 1) := by decide +kernel
theorem dX8_join_114 : decode cX8_join 114 = .ok (.iconst 0, 1) := by decide +kernel
theorem dX8_join_115 : decode cX8_join 115 = .ok (.iload 4, 2) := by decide +kernel
theorem dX8_join_117 : decode cX8_join 117 = .ok (.iconst 0, 1) := by decide +kernel
theorem dX8_join_118 : decode cX8_join 118 = .ok (.invokevirtual 166, 3) := by decide +kernel
theorem dX8_join_121 : decode cX8_join 121 = .ok (.iload_n 3, 1) := by decide +kernel
theorem dX8_join_122 : decode cX8_join 122 = .ok (.ifCond .eq 12, 3) := by decide +kernel
theorem dX8_join_125 : decode cX8_join 125 = .ok (.aload_n 0, 1) := by decide +kernel
theorem dX8_join_126 : decode cX8_join 126 = .ok (.iconst 0, 1) := by decide +kernel
theorem dX8_join_127 : decode cX8_join 127 = .ok (.iload 4, 2) := by decide +kernel
theorem dX8_join_129 : decode cX8_join 129 = .ok (.iconst 1, 1) := by decide +kernel
theorem dX8_join_130 : decode cX8_join 130 = .ok (.isub, 1) := by decide +kernel
theorem dX8_join_131 : decode cX8_join 131 = .ok (.invokevirtual 175, 3) := by decide +kernel
theorem dX8_join_134 : decode cX8_join 134 = .ok (.aload_n 0, 1) := by decide +kernel
theorem dX8_join_135 : decode cX8_join 135 = .ok (.iload_n 1, 1) := by decide +kernel
theorem dX8_join_136 : decode cX8_join 136 = .ok (.iload 5, 2) := by decide +kernel
theorem dX8_join_138 : decode cX8_join 138 = .ok (.invokevirtual 169, 3) := by decide +kernel
theorem dX8_join_141 : decode cX8_join 141 = .ok (.aload_n 0, 1) := by decide +kernel
theorem dX8_join_142 : decode cX8_join 142 = .ok (.getfield 7, 3) := by decide +kernel
theorem dX8_join_145 : decode cX8_join 145 = .ok (.iload_n 1, 1) := by decide +kernel
theorem dX8_join_146 : decode cX8_join 146 = .ok (.invokestatic 51, 3) := by decide +kernel
theorem dX8_join_149 : decode cX8_join 149 = .ok (.iconst 1, 1) := by decide +kernel
theorem dX8_join_150 : decode cX8_join 150 = .ok (.iadd, 1) := by decide +kernel
theorem dX8_join_151 : decode cX8_join 151 = .ok (.iconst 1, 1) := by decide +kernel
theorem dX8_join_152 : decode cX8_join 152 = .ok (.iastore, 1) := by decide +kernel
theorem dX8_join_153 : decode cX8_join 153 = .ok (.aload_n 0, 1) := by decide +kernel
theorem dX8_join_154 : decode cX8_join 154 = .ok (.iload 5, 2) := by decide +kernel
theorem dX8_join_156 : decode cX8_join 156 = .ok (.invokevirtual 118, 3) := by decide +kernel
theorem dX8_join_159 : decode cX8_join 159 = .ok (.ireturn, 1) := by decide +kernel
theorem dX8_join_160 : decode cX8_join 160 = .ok (.aload_n 0, 1) := by decide +kernel
theorem dX8_join_161 : decode cX8_join 161 = .ok (.iload_n 1, 1) := by decide +kernel
theorem dX8_join_162 : decode cX8_join 162 = .ok (.iconst 0, 1) := by decide +kernel
theorem dX8_join_163 : decode cX8_join 163 = .ok (.iload 4, 2) := by decide +kernel
theorem dX8_join_165 : decode cX8_join 165 = .ok (.iconst 0, 1) := by decide +kernel
theorem dX8_join_166 : decode cX8_join 166 = .ok (.invokevirtual 166, 3) := by decide +kernel
theorem dX8_join_169 : decode cX8_join 169 = .ok (.aload_n 0, 1) := by decide +kernel
theorem dX8_join_170 : decode cX8_join 170 = .ok (.iload_n 2, 1) := by decide +kernel
theorem dX8_join_171 : decode cX8_join 171 = .ok (.iconst 0, 1) := by decide +kernel
theorem dX8_join_172 : decode cX8_join 172 = .ok (.aload_n 0, 1) := by decide +kernel
theorem dX8_join_173 : decode cX8_join 173 = .ok (.iload_n 2, 1) := by decide +kernel
theorem dX8_join_174 : decode cX8_join 174 = .ok (.invokevirtual 59, 3) := by decide +kernel
theorem dX8_join_177 : decode cX8_join 177 = .ok (.iload 4, 2) := by decide +kernel
theorem dX8_join_179 : decode cX8_join 179 = .ok (.invokevirtual 166, 3) := by decide +kernel
theorem dX8_join_182 : decode cX8_join 182 = .ok (.iload_n 3, 1) := by decide +kernel
theorem dX8_join_183 : decode cX8_join 183 = .ok (.ifCond .eq 55, 3) := by decide +kernel
theorem dX8_join_186 : decode cX8_join 186 = .ok (.aload_n 0, 1) := by decide +kernel
theorem dX8_join_187 : decode cX8_join 187 = .ok (.iload 4, 2) := by decide +kernel
theorem dX8_join_189 : decode cX8_join 189 = .ok (.iload 4, 2) := by decide +kernel
theorem dX8_join_191 : decode cX8_join 191 = .ok (.iconst 1, 1) := by decide +kernel
theorem dX8_join_192 : decode cX8_join 192 = .ok (.isub, 1) := by decide +kernel
theorem dX8_join_193 : decode cX8_join 193 = .ok (.invokevirtual 175, 3) := by decide +kernel
theorem dX8_join_196 : decode cX8_join 196 = .ok (.bipush 8, 2) := by decide +kernel
theorem dX8_join_198 : decode cX8_join 198 = .ok (.iload 4, 2) := by decide +kernel
theorem dX8_join_200 : decode cX8_join 200 = .ok (.iconst 1, 1) := by decide +kernel
theorem dX8_join_201 : decode cX8_join 201 = .ok (.isub, 1) := by decide +kernel
theorem dX8_join_202 : decode cX8_join 202 = .ok (.imul, 1) := by decide +kernel
theorem dX8_join_203 : decode cX8_join 203 = .ok (.istore 6, 2) := by decide +kernel
theorem dX8_join_205 : decode cX8_join 205 = .ok (.iload 6, 2) := by decide +kernel
theorem dX8_join_207 : decode cX8_join 207 = .ok (.bipush 8, 2) := by decide +kernel
theorem dX8_join_209 : decode cX8_join 209 = .ok (.iload 5, 2) := by decide +kernel
theorem dX8_join_211 : decode cX8_join 211 = .ok (.imul, 1) := by decide +kernel
theorem dX8_join_212 : decode cX8_join 212 = .ok (.if_icmp .ge 26, 3) := by decide +kernel
theorem dX8_join_215 : decode cX8_join 215 = .ok (.aload_n 0, 1) := by decide +kernel
theorem dX8_join_216 : decode cX8_join 216 = .ok (.getfield 38, 3) := by decide +kernel
theorem dX8_join_219 : decode cX8_join 219 = .ok (.iload 6, 2) := by decide +kernel
theorem dX8_join_221 : decode cX8_join 221 = .ok (.aload_n 0, 1) := by decide +kernel
theorem dX8_join_222 : decode cX8_join 222 = .ok (.getfield 38, 3) := by decide +kernel
theorem dX8_join_225 : decode cX8_join 225 = .ok (.iload 6, 2) := by decide +kernel
theorem dX8_join_227 : decode cX8_join 227 = .ok (.bipush 8, 2) := by decide +kernel
theorem dX8_join_229 : decode cX8_join 229 = .ok (.iadd, 1) := by decide +kernel
theorem dX8_join_230 : decode cX8_join 230 = .ok (.iaload, 1) := by decide +kernel
theorem dX8_join_231 : decode cX8_join 231 = .ok (.iastore, 1) := by decide +kernel
theorem dX8_join_232 : decode cX8_join 232 = .ok (.iinc 6 1, 3) := by decide +kernel
theorem dX8_join_235 : decode cX8_join 235 = .ok (.goto (-30), 3) := by decide +kernel
theorem dX8_join_238 : decode cX8_join 238 = .ok (.aload_n 0, 1) := by decide +kernel
theorem dX8_join_239 : decode cX8_join 239 = .ok (.iload_n 1, 1) := by decide +kernel
theorem dX8_join_240 : decode cX8_join 240 = .ok (.iload 5, 2) := by decide +kernel
theorem dX8_join_242 : decode cX8_join 242 = .ok (.invokevirtual 169, 3) := by decide +kernel
theorem dX8_join_245 : decode cX8_join 245 = .ok (.aload_n 0, 1) := by decide +kernel
theorem dX8_join_246 : decode cX8_join 246 = .ok (.iload_n 2, 1) := by decide +kernel
theorem dX8_join_247 : decode cX8_join 247 = .ok (.invokevirtual 123, 3) := by decide +kernel
theorem dX8_join_250 : decode cX8_join 250 = .ok (.aload_n 0, 1) := by decide +kernel
theorem dX8_join_251 : decode cX8_join 251 = .ok (.iload 5, 2) := by decide +kernel
theorem dX8_join_253 : decode cX8_join 253 = .ok (.invokevirtual 118, 3) := by decide +kernel
theorem dX8_join_256 : decode cX8_join 256 = .ok (.ireturn, 1) := by decide +kernel
theorem dX8_swaps_0 : decode cX8_swaps 0 = .ok (.aload_n 0, 1) := by decide +kernel
theorem dX8_swaps_1 : decode cX8_swaps 1 = .ok (.getfield 7, 3) := by decide +kernel
theorem dX8_swaps_4 : decode cX8_swaps 4 = .ok (.iload_n 1, 1) := by decide +kernel
theorem dX8_swaps_5 : decode cX8_swaps 5 = .ok (.iaload, 1) := by decide +kernel
theorem dX8_swaps_6 : decode cX8_swaps 6 = .ok (.istore_n 3, 1) := by decide +kernel
theorem dX8_swaps_7 : decode cX8_swaps 7 = .ok (.aload_n 0, 1) := by decide +kernel
theorem dX8_swaps_8 : decode cX8_swaps 8 = .ok (.getfield 7, 3) := by decide +kernel
theorem dX8_swaps_11 : decode cX8_swaps 11 = .ok (.iload_n 1, 1) := by decide +kernel
theorem dX8_swaps_12 : decode cX8_swaps 12 = .ok (.aload_n 0, 1) := by decide +kernel
theorem dX8_swaps_13 : decode cX8_swaps 13 = .ok (.getfield 7, 3) := by decide +kernel
theorem dX8_swaps_16 : decode cX8_swaps 16 = .ok (.iload_n 2, 1) := by decide +kernel
theorem dX8_swaps_17 : decode cX8_swaps 17 = .ok (.iaload, 1) := by decide +kernel
theorem dX8_swaps_18 : decode cX8_swaps 18 = .ok (.iastore, 1) := by decide +kernel
theorem dX8_swaps_19 : decode cX8_swaps 19 = .ok (.aload_n 0, 1) := by decide +kernel
theorem dX8_swaps_20 : decode cX8_swaps 20 = .ok (.getfield 7, 3) := by decide +kernel
theorem dX8_swaps_23 : decode cX8_swaps 23 = .ok (.iload_n 2, 1) := by decide +kernel
theorem dX8_swaps_24 : decode cX8_swaps 24 = .ok (.iload_n 3, 1) := by decide +kernel
theorem dX8_swaps_25 : decode cX8_swaps 25 = .ok (.iastore, 1) := by decide +kernel
theorem dX8_swaps_26 : decode cX8_swaps 26 = .ok (.return_, 1) := by decide +kernel
theorem dX8_reverse_0 : decode cX8_reverse 0 = .ok (.aload_n 0, 1) := by decide +kernel
theorem dX8_reverse_1 : decode cX8_reverse 1 = .ok (.iload_n 1, 1) := by decide +kernel
theorem dX8_reverse_2 : decode cX8_reverse 2 = .ok (.invokevirtual 55, 3) := by decide +kernel
theorem dX8_reverse_5 : decode cX8_reverse 5 = .ok (.ifCond .ne 6, 3) := by decide +kernel
theorem dX8_reverse_8 : decode cX8_reverse 8 = .ok (.ldc 121, 2) := by decide +kernel
theorem dX8_reverse_10 : decode cX8_reverse 10 = .ok (.ireturn, 1) := by decide +kernel
theorem dX8_reverse_11 : decode cX8_reverse 11 = .ok (.aload_n 0, 1) := by decide +kernel
theorem dX8_reverse_12 : decode cX8_reverse 12 = .ok (.invokevirtual 110, 3) := by decide +kernel
theorem dX8_reverse_15 : decode cX8_reverse 15 = .ok (.aload_n 0, 1) := by decide +kernel
theorem dX8_reverse_16 : decode cX8_reverse 16 = .ok (.iload_n 1, 1) := by decide +kernel
theorem dX8_reverse_17 : decode cX8_reverse 17 = .ok (.invokevirtual 59, 3) := by decide +kernel
theorem dX8_reverse_20 : decode cX8_reverse 20 = .ok (.istore_n 2, 1) := by decide +kernel
theorem dX8_reverse_21 : decode cX8_reverse 21 = .ok (.iconst 0, 1) := by decide +kernel
theorem dX8_reverse_22 : decode cX8_reverse 22 = .ok (.istore_n 3, 1) := by decide +kernel
theorem dX8_reverse_23 : decode cX8_reverse 23 = .ok (.iload_n 3, 1) := by decide +kernel
theorem dX8_reverse_24 : decode cX8_reverse 24 = .ok (.iload_n 2, 1) := by decide +kernel
theorem dX8_reverse_25 : decode cX8_reverse 25 = .ok (.iconst 2, 1) := by decide +kernel
theorem dX8_reverse_26 : decode cX8_reverse 26 = .ok (.idiv, 1) := by decide +kernel
theorem dX8_reverse_27 : decode cX8_reverse 27 = .ok (.if_icmp .ge 47, 3) := by decide +kernel
theorem dX8_reverse_30 : decode cX8_reverse 30 = .ok (.iconst 0, 1) := by decide +kernel
theorem dX8_reverse_31 : decode cX8_reverse 31 = .ok (.istore 4, 2) := by decide +kernel
theorem dX8_reverse_33 : decode cX8_reverse 33 = .ok (.iload 4, 2) := by decide +kernel
theorem dX8_reverse_35 : decode cX8_reverse 35 = .ok (.bipush 8, 2) := by decide +kernel
theorem dX8_reverse_37 : decode cX8_reverse 37 = .ok (.if_icmp .ge 31, 3) := by decide +kernel
theorem dX8_reverse_40 : decode cX8_reverse 40 = .ok (.aload_n 0, 1) := by decide +kernel
theorem dX8_reverse_41 : decode cX8_reverse 41 = .ok (.iload_n 1, 1) := by decide +kernel
theorem dX8_reverse_42 : decode cX8_reverse 42 = .ok (.iload_n 3, 1) := by decide +kernel
theorem dX8_reverse_43 : decode cX8_reverse 43 = .ok (.iload 4, 2) := by decide +kernel
theorem dX8_reverse_45 : decode cX8_reverse 45 = .ok (.invokestatic 92, 3) := by decide +kernel
theorem dX8_reverse_48 : decode cX8_reverse 48 = .ok (.iload_n 1, 1) := by decide +kernel
theorem dX8_reverse_49 : decode cX8_reverse 49 = .ok (.iload_n 2, 1) := by decide +kernel
theorem dX8_reverse_50 : decode cX8_reverse 50 = .ok (.iconst 1, 1) := by decide +kernel
theorem dX8_reverse_51 : decode cX8_reverse 51 = .ok (.isub, 1) := by decide +kernel
theorem dX8_reverse_52 : decode cX8_reverse 52 = .ok (.iload_n 3, 1) := by decide +kernel
theorem dX8_reverse_53 : decode cX8_reverse 53 = .ok (.isub, 1) := by decide +kernel
theorem dX8_reverse_54 : decode cX8_reverse 54 = .ok (.iload 4, 2) := by decide +kernel
theorem dX8_reverse_56 : decode cX8_reverse 56 = .ok (.invokestatic 92, 3) := by decide +kernel
theorem dX8_reverse_59 : decode cX8_reverse 59 = .ok (.invokevirtual 178, 3) := by decide +kernel
theorem dX8_reverse_62 : decode cX8_reverse 62 = .ok (.iinc 4 1, 3) := by decide +kernel
theorem dX8_reverse_65 : decode cX8_reverse 65 = .ok (.goto (-32), 3) := by decide +kernel
theorem dX8_reverse_68 : decode cX8_reverse 68 = .ok (.iinc 3 1, 3) := by decide +kernel
theorem dX8_reverse_71 : decode cX8_reverse 71 = .ok (.goto (-48), 3) := by decide +kernel
theorem dX8_reverse_74 : decode cX8_reverse 74 = .ok (.iconst 0, 1) := by decide +kernel
theorem dX8_reverse_75 : decode cX8_reverse 75 = .ok (.istore_n 3, 1) := by decide +kernel
theorem dX8_reverse_76 : decode cX8_reverse 76 = .ok (.iload_n 3, 1) := by decide +kernel
theorem dX8_reverse_77 : decode cX8_reverse 77 = .ok (.iload_n 2, 1) := by decide +kernel
theorem dX8_reverse_78 : decode cX8_reverse 78 = .ok (.if_icmp .ge 59, 3) := by decide +kernel
theorem dX8_reverse_81 : decode cX8_reverse 81 = .ok (.aload_n 0, 1) := by decide +kernel
theorem dX8_reverse_82 : decode cX8_reverse 82 = .ok (.iload_n 1, 1) := by decide +kernel
theorem dX8_reverse_83 : decode cX8_reverse 83 = .ok (.iload_n 3, 1) := by decide +kernel
theorem dX8_reverse_84 : decode cX8_reverse 84 = .ok (.iconst 2, 1) := by decide +kernel
theorem dX8_reverse_85 : decode cX8_reverse 85 = .ok (.invokestatic 92, 3) := by decide +kernel
theorem dX8_reverse_88 : decode cX8_reverse 88 = .ok (.iload_n 1, 1) := by decide +kernel
theorem dX8_reverse_89 : decode cX8_reverse 89 = .ok (.iload_n 3, 1) := by decide +kernel
theorem dX8_reverse_90 : decode cX8_reverse 90 = .ok (.iconst 4, 1) := by decide +kernel
theorem dX8_reverse_91 : decode cX8_reverse 91 = .ok (.invokestatic 92, 3) := by decide +kernel
theorem dX8_reverse_94 : decode cX8_reverse 94 = .ok (.invokevirtual 178, 3) := by decide +kernel
theorem dX8_reverse_97 : decode cX8_reverse 97 = .ok (.aload_n 0, 1) := by decide +kernel
theorem dX8_reverse_98 : decode cX8_reverse 98 = .ok (.iload_n 1, 1) := by decide +kernel
theorem dX8_reverse_99 : decode cX8_reverse 99 = .ok (.iload_n 3, 1) := by decide +kernel
theorem dX8_reverse_100 : decode cX8_reverse 100 = .ok (.iconst 3, 1) := by decide +kernel
theorem dX8_reverse_101 : decode cX8_reverse 101 = .ok (.invokestatic 92, 3) := by decide +kernel
theorem dX8_reverse_104 : decode cX8_reverse 104 = .ok (.iload_n 1, 1) := by decide +kernel
theorem dX8_reverse_105 : decode cX8_reverse 105 = .ok (.iload_n 3, 1) := by decide +kernel
theorem dX8_reverse_106 : decode cX8_reverse 106 = .ok (.iconst 5, 1) := by decide +kernel
theorem dX8_reverse_107 : decode cX8_reverse 107 = .ok (.invokestatic 92, 3) := by decide +kernel
theorem dX8_reverse_110 : decode cX8_reverse 110 = .ok (.invokevirtual 178, 3) := by decide +kernel
theorem dX8_reverse_113 : decode cX8_reverse 113 = .ok (.aload_n 0, 1) := by decide +kernel
theorem dX8_reverse_114 : decode cX8_reverse 114 = .ok (.iload_n 1, 1) := by decide +kernel
theorem dX8_reverse_115 : decode cX8_reverse 115 = .ok (.iload_n 3, 1) := by decide +kernel
theorem dX8_reverse_116 : decode cX8_reverse 116 = .ok (.bipush 6, 2) := by decide +kernel
theorem dX8_reverse_118 : decode cX8_reverse 118 = .ok (.invokestatic 92, 3) := by decide +kernel
theorem dX8_reverse_121 : decode cX8_reverse 121 = .ok (.iload_n 1, 1) := by decide +kernel
theorem dX8_reverse_122 : decode cX8_reverse 122 = .ok (.iload_n 3, 1) := by decide +kernel
theorem dX8_reverse_123 : decode cX8_reverse 123 = .ok (.bipush 7, 2) := by decide +kernel
theorem dX8_reverse_125 : decode cX8_reverse 125 = .ok (.invokestatic 92, 3) := by decide +kernel
theorem dX8_reverse_128 : decode cX8_reverse 128 = .ok (.invokevirtual 178, 3) := by decide +kernel
theorem dX8_reverse_131 : decode cX8_reverse 131 = .ok (.iinc 3 1, 3) := by decide +kernel
theorem dX8_reverse_134 : decode cX8_reverse 134 = .ok (.goto (-58), 3) := by decide +kernel
theorem dX8_reverse_137 : decode cX8_reverse 137 = .ok (.aload_n 0, 1) := by decide +kernel
theorem dX8_reverse_138 : decode cX8_reverse 138 = .ok (.iload_n 2, 1) := by decide +kernel
theorem dX8_reverse_139 : decode cX8_reverse 139 = .ok (.invokevirtual 118, 3) := by decide +kernel
theorem dX8_reverse_142 : decode cX8_reverse 142 = .ok (.ireturn, 1) := by decide +kernel
theorem dX8_transforms_0 : decode cX8_transforms 0 = .ok (.aload_n 0, 1) := by decide +kernel
theorem dX8_transforms_1 : decode cX8_transforms 1 = .ok (.getfield 7, 3) := by decide +kernel
theorem dX8_transforms_4 : decode cX8_transforms 4 = .ok (.iload_n 1, 1) := by decide +kernel
theorem dX8_transforms_5 : decode cX8_transforms 5 = .ok (.iaload, 1) := by decide +kernel
theorem dX8_transforms_6 : decode cX8_transforms 6 = .ok (.istore 7, 2) := by decide +kernel
theorem dX8_transforms_8 : decode cX8_transforms 8 = .ok (.aload_n 0, 1) := by decide +kernel
theorem dX8_transforms_9 : decode cX8_transforms 9 = .ok (.getfield 7, 3) := by decide +kernel
theorem dX8_transforms_12 : decode cX8_transforms 12 = .ok (.iload_n 1, 1) := by decide +kernel
theorem dX8_transforms_13 : decode cX8_transforms 13 = .ok (.iconst 1, 1) := by decide +kernel
theorem dX8_transforms_14 : decode cX8_transforms 14 = .ok (.iadd, 1) := by decide +kernel
theorem dX8_transforms_15 : decode cX8_transforms 15 = .ok (.iaload, 1) := by decide +kernel
theorem dX8_transforms_16 : decode cX8_transforms 16 = .ok (.istore 8, 2) := by decide +kernel
theorem dX8_transforms_18 : decode cX8_transforms 18 = .ok (.aload_n 0, 1) := by decide +kernel
theorem dX8_transforms_19 : decode cX8_transforms 19 = .ok (.iload_n 1, 1) := by decide +kernel
theorem dX8_transforms_20 : decode cX8_transforms 20 = .ok (.iload_n 2, 1) := by decide +kernel
theorem dX8_transforms_21 : decode cX8_transforms 21 = .ok (.i2l, 1) := by decide +kernel
theorem dX8_transforms_22 : decode cX8_transforms 22 = .ok (.iload 7, 2) := by decide +kernel
theorem dX8_transforms_24 : decode cX8_transforms 24 = .ok (.i2l, 1) := by decide +kernel
theorem dX8_transforms_25 : decode cX8_transforms 25 = .ok (.lmul, 1) := by decide +kernel
theorem dX8_transforms_26 : decode cX8_transforms 26 = .ok (.iload_n 3, 1) := by decide +kernel
theorem dX8_transforms_27 : decode cX8_transforms 27 = .ok (.i2l, 1) := by decide +kernel
theorem dX8_transforms_28 : decode cX8_transforms 28 = .ok (.iload 8, 2) := by decide +kernel
theorem dX8_transforms_30 : decode cX8_transforms 30 = .ok (.i2l, 1) := by decide +kernel
theorem dX8_transforms_31 : decode cX8_transforms 31 = .ok (.lmul, 1) := by decide +kernel
theorem dX8_transforms_32 : decode cX8_transforms 32 = .ok (.ladd, 1) := by decide +kernel
theorem dX8_transforms_33 : decode cX8_transforms 33 = .ok (.iload 6, 2) := by decide +kernel
theorem dX8_transforms_35 : decode cX8_transforms 35 = .ok (.i2l, 1) := by decide +kernel
theorem dX8_transforms_36 : decode cX8_transforms 36 = .ok (.invokevirtual 100, 3) := by decide +kernel
theorem dX8_transforms_39 : decode cX8_transforms 39 = .ok (.aload_n 0, 1) := by decide +kernel
theorem dX8_transforms_40 : decode cX8_transforms 40 = .ok (.iload_n 1, 1) := by decide +kernel
theorem dX8_transforms_41 : decode cX8_transforms 41 = .ok (.iconst 1, 1) := by decide +kernel
theorem dX8_transforms_42 : decode cX8_transforms 42 = .ok (.iadd, 1) := by decide +kernel
theorem dX8_transforms_43 : decode cX8_transforms 43 = .ok (.iload 4, 2) := by decide +kernel
theorem dX8_transforms_45 : decode cX8_transforms 45 = .ok (.i2l, 1) := by decide +kernel
theorem dX8_transforms_46 : decode cX8_transforms 46 = .ok (.iload 7, 2) := by decide +kernel
theorem dX8_transforms_48 : decode cX8_transforms 48 = .ok (.i2l, 1) := by decide +kernel
theorem dX8_transforms_49 : decode cX8_transforms 49 = .ok (.lmul, 1) := by decide +kernel
theorem dX8_transforms_50 : decode cX8_transforms 50 = .ok (.iload 5, 2) := by decide +kernel
theorem dX8_transforms_52 : decode cX8_transforms 52 = .ok (.i2l, 1) := by decide +kernel
theorem dX8_transforms_53 : decode cX8_transforms 53 = .ok (.iload 8, 2) := by decide +kernel
theorem dX8_transforms_55 : decode cX8_transforms 55 = .ok (.i2l, 1) := by decide +kernel
theorem dX8_transforms_56 : decode cX8_transforms 56 = .ok (.lmul, 1) := by decide +kernel
theorem dX8_transforms_57 : decode cX8_transforms 57 = .ok (.ladd, 1) := by decide +kernel
theorem dX8_transforms_58 : decode cX8_transforms 58 = .ok (.iload 6, 2) := by decide +kernel
theorem dX8_transforms_60 : decode cX8_transforms 60 = .ok (.i2l, 1) := by decide +kernel
theorem dX8_transforms_61 : decode cX8_transforms 61 = .ok (.invokevirtual 100, 3) := by decide +kernel
theorem dX8_transforms_64 : decode cX8_transforms 64 = .ok (.return_, 1) := by decide +kernel
theorem dX8_transform_0 : decode cX8_transform 0 = .ok (.aload_n 0, 1) := by decide +kernel
theorem dX8_transform_1 : decode cX8_transform 1 = .ok (.iload_n 1, 1) := by decide +kernel
theorem dX8_transform_2 : decode cX8_transform 2 = .ok (.invokevirtual 55, 3) := by decide +kernel
theorem dX8_transform_5 : decode cX8_transform 5 = .ok (.ifCond .ne 6, 3) := by decide +kernel
theorem dX8_transform_8 : decode cX8_transform 8 = .ok (.ldc 121, 2) := by decide +kernel
theorem dX8_transform_10 : decode cX8_transform 10 = .ok (.ireturn, 1) := by decide +kernel
theorem dX8_transform_11 : decode cX8_transform 11 = .ok (.iload_n 2, 1) := by decide +kernel
theorem dX8_transform_12 : decode cX8_transform 12 = .ok (.bipush (-9), 2) := by decide +kernel
theorem dX8_transform_14 : decode cX8_transform 14 = .ok (.bipush 9, 2) := by decide +kernel
theorem dX8_transform_16 : decode cX8_transform 16 = .ok (.invokestatic 47, 3) := by decide +kernel
theorem dX8_transform_19 : decode cX8_transform 19 = .ok (.ifCond .eq 49, 3) := by decide +kernel
theorem dX8_transform_22 : decode cX8_transform 22 = .ok (.iload_n 3, 1) := by decide +kernel
theorem dX8_transform_23 : decode cX8_transform 23 = .ok (.bipush (-9), 2) := by decide +kernel
theorem dX8_transform_25 : decode cX8_transform 25 = .ok (.bipush 9, 2) := by decide +kernel
theorem dX8_transform_27 : decode cX8_transform 27 = .ok (.invokestatic 47, 3) := by decide +kernel
theorem dX8_transform_30 : decode cX8_transform 30 = .ok (.ifCond .eq 38, 3) := by decide +kernel
theorem dX8_transform_33 : decode cX8_transform 33 = .ok (.iload 4, 2) := by decide +kernel
theorem dX8_transform_35 : decode cX8_transform 35 = .ok (.bipush (-9), 2) := by decide +kernel
theorem dX8_transform_37 : decode cX8_transform 37 = .ok (.bipush 9, 2) := by decide +kernel
theorem dX8_transform_39 : decode cX8_transform 39 = .ok (.invokestatic 47, 3) := by decide +kernel
theorem dX8_transform_42 : decode cX8_transform 42 = .ok (.ifCond .eq 26, 3) := by decide +kernel
theorem dX8_transform_45 : decode cX8_transform 45 = .ok (.iload 5, 2) := by decide +kernel
theorem dX8_transform_47 : decode cX8_transform 47 = .ok (.bipush (-9), 2) := by decide +kernel
theorem dX8_transform_49 : decode cX8_transform 49 = .ok (.bipush 9, 2) := by decide +kernel
theorem dX8_transform_51 : decode cX8_transform 51 = .ok (.invokestatic 47, 3) := by decide +kernel
theorem dX8_transform_54 : decode cX8_transform 54 = .ok (.ifCond .eq 14, 3) := by decide +kernel
theorem dX8_transform_57 : decode cX8_transform 57 = .ok (.iload 6, 2) := by decide +kernel
theorem dX8_transform_59 : decode cX8_transform 59 = .ok (.iconst 1, 1) := by decide +kernel
theorem dX8_transform_60 : decode cX8_transform 60 = .ok (.bipush 6, 2) := by decide +kernel
theorem dX8_transform_62 : decode cX8_transform 62 = .ok (.invokestatic 47, 3) := by decide +kernel
theorem dX8_transform_65 : decode cX8_transform 65 = .ok (.ifCond .ne 6, 3) := by decide +kernel
theorem dX8_transform_68 : decode cX8_transform 68 = .ok (.ldc 108, 2) := by decide +kernel
theorem dX8_transform_70 : decode cX8_transform 70 = .ok (.ireturn, 1) := by decide +kernel
theorem dX8_transform_71 : decode cX8_transform 71 = .ok (.aload_n 0, 1) := by decide +kernel
theorem dX8_transform_72 : decode cX8_transform 72 = .ok (.invokevirtual 110, 3) := by decide +kernel
theorem dX8_transform_75 : decode cX8_transform 75 = .ok (.aload_n 0, 1) := by decide +kernel
theorem dX8_transform_76 : decode cX8_transform 76 = .ok (.iconst 0, 1) := by decide +kernel
theorem dX8_transform_77 : decode cX8_transform 77 = .ok (.putfield 84, 3) := by decide +kernel
theorem dX8_transform_80 : decode cX8_transform 80 = .ok (.iconst 0, 1) := by decide +kernel
theorem dX8_transform_81 : decode cX8_transform 81 = .ok (.istore 7, 2) := by decide +kernel
theorem dX8_transform_83 : decode cX8_transform 83 = .ok (.iload 7, 2) := by decide +kernel
theorem dX8_transform_85 : decode cX8_transform 85 = .ok (.aload_n 0, 1) := by decide +kernel
theorem dX8_transform_86 : decode cX8_transform 86 = .ok (.iload_n 1, 1) := by decide +kernel
theorem dX8_transform_87 : decode cX8_transform 87 = .ok (.invokevirtual 59, 3) := by decide +kernel
theorem dX8_transform_90 : decode cX8_transform 90 = .ok (.if_icmp .ge 45, 3) := by decide +kernel
theorem dX8_transform_93 : decode cX8_transform 93 = .ok (.iconst 0, 1) := by decide +kernel
theorem dX8_transform_94 : decode cX8_transform 94 = .ok (.istore 8, 2) := by decide +kernel
theorem dX8_transform_96 : decode cX8_transform 96 = .ok (.iload 8, 2) := by decide +kernel
theorem dX8_transform_98 : decode cX8_transform 98 = .ok (.bipush 6, 2) := by decide +kernel
theorem dX8_transform_100 : decode cX8_transform 100 = .ok (.if_icmp .ge 29, 3) := by decide +kernel
theorem dX8_transform_103 : decode cX8_transform 103 = .ok (.aload_n 0, 1) := by decide +kernel
theorem dX8_transform_104 : decode cX8_transform 104 = .ok (.iload_n 1, 1) := by decide +kernel
theorem dX8_transform_105 : decode cX8_transform 105 = .ok (.iload 7, 2) := by decide +kernel
theorem dX8_transform_107 : decode cX8_transform 107 = .ok (.iload 8, 2) := by decide +kernel
theorem dX8_transform_109 : decode cX8_transform 109 = .ok (.invokestatic 92, 3) := by decide +kernel
theorem dX8_transform_112 : decode cX8_transform 112 = .ok (.iload_n 2, 1) := by decide +kernel
theorem dX8_transform_113 : decode cX8_transform 113 = .ok (.iload_n 3, 1) := by decide +kernel
theorem dX8_transform_114 : decode cX8_transform 114 = .ok (.iload 4, 2) := by decide +kernel
theorem dX8_transform_116 : decode cX8_transform 116 = .ok (.iload 5, 2) := by decide +kernel
theorem dX8_transform_118 : decode cX8_transform 118 = .ok (.iload 6, 2) := by decide +kernel
theorem dX8_transform_120 : decode cX8_transform 120 = .ok (.invokevirtual 181, 3) := by decide +kernel
theorem dX8_transform_123 : decode cX8_transform 123 = .ok (.iinc 8 2, 3) := by decide +kernel
theorem dX8_transform_126 : decode cX8_transform 126 = .ok (.goto (-30), 3) := by decide +kernel
theorem dX8_transform_129 : decode cX8_transform 129 = .ok (.iinc 7 1, 3) := by decide +kernel
theorem dX8_transform_132 : decode cX8_transform 132 = .ok (.goto (-49), 3) := by decide +kernel
theorem dX8_transform_135 : decode cX8_transform 135 = .ok (.aload_n 0, 1) := by decide +kernel
theorem dX8_transform_136 : decode cX8_transform 136 = .ok (.getfield 84, 3) := by decide +kernel
theorem dX8_transform_139 : decode cX8_transform 139 = .ok (.ifCond .ge 14, 3) := by decide +kernel
theorem dX8_transform_142 : decode cX8_transform 142 = .ok (.aload_n 0, 1) := by decide +kernel
theorem dX8_transform_143 : decode cX8_transform 143 = .ok (.aload_n 0, 1) := by decide +kernel
theorem dX8_transform_144 : decode cX8_transform 144 = .ok (.getfield 84, 3) := by decide +kernel
theorem dX8_transform_147 : decode cX8_transform 147 = .ok (.invokevirtual 132, 3) := by decide +kernel
theorem dX8_transform_150 : decode cX8_transform 150 = .ok (.goto 12, 3) := by decide +kernel
theorem dX8_transform_153 : decode cX8_transform 153 = .ok (.aload_n 0, 1) := by decide +kernel
theorem dX8_transform_154 : decode cX8_transform 154 = .ok (.aload_n 0, 1) := by decide +kernel
theorem dX8_transform_155 : decode cX8_transform 155 = .ok (.iload_n 1, 1) := by decide +kernel
theorem dX8_transform_156 : decode cX8_transform 156 = .ok (.invokevirtual 59, 3) := by decide +kernel
theorem dX8_transform_159 : decode cX8_transform 159 = .ok (.invokevirtual 118, 3) := by decide +kernel
theorem dX8_transform_162 : decode cX8_transform 162 = .ok (.ireturn, 1) := by decide +kernel
theorem dX8_shift_0 : decode cX8_shift 0 = .ok (.aload_n 0, 1) := by decide +kernel
theorem dX8_shift_1 : decode cX8_shift 1 = .ok (.iload_n 1, 1) := by decide +kernel
theorem dX8_shift_2 : decode cX8_shift 2 = .ok (.invokevirtual 55, 3) := by decide +kernel
theorem dX8_shift_5 : decode cX8_shift 5 = .ok (.ifCond .ne 6, 3) := by decide +kernel
theorem dX8_shift_8 : decode cX8_shift 8 = .ok (.ldc 121, 2) := by decide +kernel
theorem dX8_shift_10 : decode cX8_shift 10 = .ok (.ireturn, 1) := by decide +kernel
theorem dX8_shift_11 : decode cX8_shift 11 = .ok (.iload_n 2, 1) := by decide +kernel
theorem dX8_shift_12 : decode cX8_shift 12 = .ok (.iload_n 3, 1) := by decide +kernel
theorem dX8_shift_13 : decode cX8_shift 13 = .ok (.invokestatic 104, 3) := by decide +kernel
theorem dX8_shift_16 : decode cX8_shift 16 = .ok (.ifCond .ne 6, 3) := by decide +kernel
theorem dX8_shift_19 : decode cX8_shift 19 = .ok (.ldc 108, 2) := by decide +kernel
theorem dX8_shift_21 : decode cX8_shift 21 = .ok (.ireturn, 1) := by decide +kernel
theorem dX8_shift_22 : decode cX8_shift 22 = .ok (.aload_n 0, 1) := by decide +kernel
theorem dX8_shift_23 : decode cX8_shift 23 = .ok (.invokevirtual 110, 3) := by decide +kernel
theorem dX8_shift_26 : decode cX8_shift 26 = .ok (.aload_n 0, 1) := by decide +kernel
theorem dX8_shift_27 : decode cX8_shift 27 = .ok (.iconst 0, 1) := by decide +kernel
theorem dX8_shift_28 : decode cX8_shift 28 = .ok (.putfield 84, 3) := by decide +kernel
theorem dX8_shift_31 : decode cX8_shift 31 = .ok (.iconst 0, 1) := by decide +kernel
theorem dX8_shift_32 : decode cX8_shift 32 = .ok (.istore 4, 2) := by decide +kernel
theorem dX8_shift_34 : decode cX8_shift 34 = .ok (.iload 4, 2) := by decide +kernel
theorem dX8_shift_36 : decode cX8_shift 36 = .ok (.aload_n 0, 1) := by decide +kernel
theorem dX8_shift_37 : decode cX8_shift 37 = .ok (.iload_n 1, 1) := by decide +kernel
theorem dX8_shift_38 : decode cX8_shift 38 = .ok (.invokevirtual 59, 3) := by decide +kernel
theorem dX8_shift_41 : decode cX8_shift 41 = .ok (.if_icmp .ge 73, 3) := by decide +kernel
theorem dX8_shift_44 : decode cX8_shift 44 = .ok (.aload_n 0, 1) := by decide +kernel
theorem dX8_shift_45 : decode cX8_shift 45 = .ok (.iload_n 1, 1) := by decide +kernel
theorem dX8_shift_46 : decode cX8_shift 46 = .ok (.iload 4, 2) := by decide +kernel
theorem dX8_shift_48 : decode cX8_shift 48 = .ok (.iconst 0, 1) := by decide +kernel
theorem dX8_shift_49 : decode cX8_shift 49 = .ok (.invokestatic 92, 3) := by decide +kernel
theorem dX8_shift_52 : decode cX8_shift 52 = .ok (.aload_n 0, 1) := by decide +kernel
theorem dX8_shift_53 : decode cX8_shift 53 = .ok (.getfield 7, 3) := by decide +kernel
theorem dX8_shift_56 : decode cX8_shift 56 = .ok (.iload_n 1, 1) := by decide +kernel
theorem dX8_shift_57 : decode cX8_shift 57 = .ok (.iload 4, 2) := by decide +kernel
theorem dX8_shift_59 : decode cX8_shift 59 = .ok (.iconst 0, 1) := by decide +kernel
theorem dX8_shift_60 : decode cX8_shift 60 = .ok (.invokestatic 92, 3) := by decide +kernel
theorem dX8_shift_63 : decode cX8_shift 63 = .ok (.iaload, 1) := by decide +kernel
theorem dX8_shift_64 : decode cX8_shift 64 = .ok (.i2l, 1) := by decide +kernel
theorem dX8_shift_65 : decode cX8_shift 65 = .ok (.iload_n 2, 1) := by decide +kernel
theorem dX8_shift_66 : decode cX8_shift 66 = .ok (.i2l, 1) := by decide +kernel
theorem dX8_shift_67 : decode cX8_shift 67 = .ok (.ldc2_w 130, 3) := by decide +kernel
theorem dX8_shift_70 : decode cX8_shift 70 = .ok (.lmul, 1) := by decide +kernel
theorem dX8_shift_71 : decode cX8_shift 71 = .ok (.ladd, 1) := by decide +kernel
theorem dX8_shift_72 : decode cX8_shift 72 = .ok (.lconst 1, 1) := by decide +kernel
theorem dX8_shift_73 : decode cX8_shift 73 = .ok (.invokevirtual 100, 3) := by decide +kernel
theorem dX8_shift_76 : decode cX8_shift 76 = .ok (.aload_n 0, 1) := by decide +kernel
theorem dX8_shift_77 : decode cX8_shift 77 = .ok (.iload_n 1, 1) := by decide +kernel
theorem dX8_shift_78 : decode cX8_shift 78 = .ok (.iload 4, 2) := by decide +kernel
theorem dX8_shift_80 : decode cX8_shift 80 = .ok (.iconst 1, 1) := by decide +kernel
theorem dX8_shift_81 : decode cX8_shift 81 = .ok (.invokestatic 92, 3) := by decide +kernel
theorem dX8_shift_84 : decode cX8_shift 84 = .ok (.aload_n 0, 1) := by decide +kernel
theorem dX8_shift_85 : decode cX8_shift 85 = .ok (.getfield 7, 3) := by decide +kernel
theorem dX8_shift_88 : decode cX8_shift 88 = .ok (.iload_n 1, 1) := by decide +kernel
theorem dX8_shift_89 : decode cX8_shift 89 = .ok (.iload 4, 2) := by decide +kernel
theorem dX8_shift_91 : decode cX8_shift 91 = .ok (.iconst 1, 1) := by decide +kernel
theorem dX8_shift_92 : decode cX8_shift 92 = .ok (.invokestatic 92, 3) := by decide +kernel
theorem dX8_shift_95 : decode cX8_shift 95 = .ok (.iaload, 1) := by decide +kernel
theorem dX8_shift_96 : decode cX8_shift 96 = .ok (.i2l, 1) := by decide +kernel
theorem dX8_shift_97 : decode cX8_shift 97 = .ok (.iload_n 3, 1) := by decide +kernel
theorem dX8_shift_98 : decode cX8_shift 98 = .ok (.i2l, 1) := by decide +kernel
theorem dX8_shift_99 : decode cX8_shift 99 = .ok (.ldc2_w 130, 3) := by decide +kernel
theorem dX8_shift_102 : decode cX8_shift 102 = .ok (.lmul, 1) := by decide +kernel
theorem dX8_shift_103 : decode cX8_shift 103 = .ok (.ladd, 1) := by decide +kernel
theorem dX8_shift_104 : decode cX8_shift 104 = .ok (.lconst 1, 1) := by decide +kernel
theorem dX8_shift_105 : decode cX8_shift 105 = .ok (.invokevirtual 100, 3) := by decide +kernel
theorem dX8_shift_108 : decode cX8_shift 108 = .ok (.iinc 4 1, 3) := by decide +kernel
theorem dX8_shift_111 : decode cX8_shift 111 = .ok (.goto (-77), 3) := by decide +kernel
theorem dX8_shift_114 : decode cX8_shift 114 = .ok (.aload_n 0, 1) := by decide +kernel
theorem dX8_shift_115 : decode cX8_shift 115 = .ok (.getfield 84, 3) := by decide +kernel
theorem dX8_shift_118 : decode cX8_shift 118 = .ok (.ifCond .ge 14, 3) := by decide +kernel
theorem dX8_shift_121 : decode cX8_shift 121 = .ok (.aload_n 0, 1) := by decide +kernel
theorem dX8_shift_122 : decode cX8_shift 122 = .ok (.aload_n 0, 1) := by decide +kernel
theorem dX8_shift_123 : decode cX8_shift 123 = .ok (.getfield 84, 3) := by decide +kernel
theorem dX8_shift_126 : decode cX8_shift 126 = .ok (.invokevirtual 132, 3) := by decide +kernel
theorem dX8_shift_129 : decode cX8_shift 129 = .ok (.goto 12, 3) := by decide +kernel
theorem dX8_shift_132 : decode cX8_shift 132 = .ok (.aload_n 0, 1) := by decide +kernel
theorem dX8_shift_133 : decode cX8_shift 133 = .ok (.aload_n 0, 1) := by decide +kernel
theorem dX8_shift_134 : decode cX8_shift 134 = .ok (.iload_n 1, 1) := by decide +kernel
theorem dX8_shift_135 : decode cX8_shift 135 = .ok (.invokevirtual 59, 3) := by decide +kernel
theorem dX8_shift_138 : decode cX8_shift 138 = .ok (.invokevirtual 118, 3) := by decide +kernel
theorem dX8_shift_141 : decode cX8_shift 141 = .ok (.ireturn, 1) := by decide +kernel
theorem dX8_undo_0 : decode cX8_undo 0 = .ok (.aload_n 0, 1) := by decide +kernel
theorem dX8_undo_1 : decode cX8_undo 1 = .ok (.getfield 72, 3) := by decide +kernel
theorem dX8_undo_4 : decode cX8_undo 4 = .ok (.ifCond .ne 6, 3) := by decide +kernel
theorem dX8_undo_7 : decode cX8_undo 7 = .ok (.ldc 122, 2) := by decide +kernel
theorem dX8_undo_9 : decode cX8_undo 9 = .ok (.ireturn, 1) := by decide +kernel
theorem dX8_undo_10 : decode cX8_undo 10 = .ok (.aload_n 0, 1) := by decide +kernel
theorem dX8_undo_11 : decode cX8_undo 11 = .ok (.aload_n 0, 1) := by decide +kernel
theorem dX8_undo_12 : decode cX8_undo 12 = .ok (.getfield 7, 3) := by decide +kernel
theorem dX8_undo_15 : decode cX8_undo 15 = .ok (.iconst 0, 1) := by decide +kernel
theorem dX8_undo_16 : decode cX8_undo 16 = .ok (.aload_n 0, 1) := by decide +kernel
theorem dX8_undo_17 : decode cX8_undo 17 = .ok (.getfield 19, 3) := by decide +kernel
theorem dX8_undo_20 : decode cX8_undo 20 = .ok (.sipush 589, 3) := by decide +kernel
theorem dX8_undo_23 : decode cX8_undo 23 = .ok (.aload_n 0, 1) := by decide +kernel
theorem dX8_undo_24 : decode cX8_undo 24 = .ok (.getfield 80, 3) := by decide +kernel
theorem dX8_undo_27 : decode cX8_undo 27 = .ok (.imul, 1) := by decide +kernel
theorem dX8_undo_28 : decode cX8_undo 28 = .ok (.invokevirtual 68, 3) := by decide +kernel
theorem dX8_undo_31 : decode cX8_undo 31 = .ok (.aload_n 0, 1) := by decide +kernel
theorem dX8_undo_32 : decode cX8_undo 32 = .ok (.dup, 1) := by decide +kernel
theorem dX8_undo_33 : decode cX8_undo 33 = .ok (.getfield 80, 3) := by decide +kernel
theorem dX8_undo_36 : decode cX8_undo 36 = .ok (.iconst 1, 1) := by decide +kernel
theorem dX8_undo_37 : decode cX8_undo 37 = .ok (.iadd, 1) := by decide +kernel
theorem dX8_undo_38 : decode cX8_undo 38 = .ok (.putfield 80, 3) := by decide +kernel
theorem dX8_undo_41 : decode cX8_undo 41 = .ok (.aload_n 0, 1) := by decide +kernel
theorem dX8_undo_42 : decode cX8_undo 42 = .ok (.dup, 1) := by decide +kernel
theorem dX8_undo_43 : decode cX8_undo 43 = .ok (.getfield 72, 3) := by decide +kernel
theorem dX8_undo_46 : decode cX8_undo 46 = .ok (.iconst 1, 1) := by decide +kernel
theorem dX8_undo_47 : decode cX8_undo 47 = .ok (.isub, 1) := by decide +kernel
theorem dX8_undo_48 : decode cX8_undo 48 = .ok (.putfield 72, 3) := by decide +kernel
theorem dX8_undo_51 : decode cX8_undo 51 = .ok (.aload_n 0, 1) := by decide +kernel
theorem dX8_undo_52 : decode cX8_undo 52 = .ok (.aload_n 0, 1) := by decide +kernel
theorem dX8_undo_53 : decode cX8_undo 53 = .ok (.getfield 16, 3) := by decide +kernel
theorem dX8_undo_56 : decode cX8_undo 56 = .ok (.sipush 589, 3) := by decide +kernel
theorem dX8_undo_59 : decode cX8_undo 59 = .ok (.aload_n 0, 1) := by decide +kernel
theorem dX8_undo_60 : decode cX8_undo 60 = .ok (.getfield 72, 3) := by decide +kernel
theorem dX8_undo_63 : decode cX8_undo 63 = .ok (.imul, 1) := by decide +kernel
theorem dX8_undo_64 : decode cX8_undo 64 = .ok (.aload_n 0, 1) := by decide +kernel
theorem dX8_undo_65 : decode cX8_undo 65 = .ok (.getfield 7, 3) := by decide +kernel
theorem dX8_undo_68 : decode cX8_undo 68 = .ok (.iconst 0, 1) := by decide +kernel
theorem dX8_undo_69 : decode cX8_undo 69 = .ok (.invokevirtual 68, 3) := by decide +kernel
theorem dX8_undo_72 : decode cX8_undo 72 = .ok (.aload_n 0, 1) := by decide +kernel
theorem dX8_undo_73 : decode cX8_undo 73 = .ok (.getfield 72, 3) := by decide +kernel
theorem dX8_undo_76 : decode cX8_undo 76 = .ok (.ireturn, 1) := by decide +kernel
theorem dX8_redo_0 : decode cX8_redo 0 = .ok (.aload_n 0, 1) := by decide +kernel
theorem dX8_redo_1 : decode cX8_redo 1 = .ok (.getfield 80, 3) := by decide +kernel
theorem dX8_redo_4 : decode cX8_redo 4 = .ok (.ifCond .ne 6, 3) := by decide +kernel
theorem dX8_redo_7 : decode cX8_redo 7 = .ok (.ldc 122, 2) := by decide +kernel
theorem dX8_redo_9 : decode cX8_redo 9 = .ok (.ireturn, 1) := by decide +kernel
theorem dX8_redo_10 : decode cX8_redo 10 = .ok (.aload_n 0, 1) := by decide +kernel
theorem dX8_redo_11 : decode cX8_redo 11 = .ok (.aload_n 0, 1) := by decide +kernel
theorem dX8_redo_12 : decode cX8_redo 12 = .ok (.getfield 7, 3) := by decide +kernel
theorem dX8_redo_15 : decode cX8_redo 15 = .ok (.invokevirtual 76, 3) := by decide +kernel
theorem dX8_redo_18 : decode cX8_redo 18 = .ok (.aload_n 0, 1) := by decide +kernel
theorem dX8_redo_19 : decode cX8_redo 19 = .ok (.dup, 1) := by decide +kernel
theorem dX8_redo_20 : decode cX8_redo 20 = .ok (.getfield 80, 3) := by decide +kernel
theorem dX8_redo_23 : decode cX8_redo 23 = .ok (.iconst 1, 1) := by decide +kernel
theorem dX8_redo_24 : decode cX8_redo 24 = .ok (.isub, 1) := by decide +kernel
theorem dX8_redo_25 : decode cX8_redo 25 = .ok (.putfield 80, 3) := by decide +kernel
theorem dX8_redo_28 : decode cX8_redo 28 = .ok (.aload_n 0, 1) := by decide +kernel
theorem dX8_redo_29 : decode cX8_redo 29 = .ok (.aload_n 0, 1) := by decide +kernel
theorem dX8_redo_30 : decode cX8_redo 30 = .ok (.getfield 19, 3) := by decide +kernel
theorem dX8_redo_33 : decode cX8_redo 33 = .ok (.sipush 589, 3) := by decide +kernel
theorem dX8_redo_36 : decode cX8_redo 36 = .ok (.aload_n 0, 1) := by decide +kernel
theorem dX8_redo_37 : decode cX8_redo 37 = .ok (.getfield 80, 3) := by decide +kernel
theorem dX8_redo_40 : decode cX8_redo 40 = .ok (.imul, 1) := by decide +kernel
theorem dX8_redo_41 : decode cX8_redo 41 = .ok (.aload_n 0, 1) := by decide +kernel
theorem dX8_redo_42 : decode cX8_redo 42 = .ok (.getfield 7, 3) := by decide +kernel
theorem dX8_redo_45 : decode cX8_redo 45 = .ok (.iconst 0, 1) := by decide +kernel
theorem dX8_redo_46 : decode cX8_redo 46 = .ok (.invokevirtual 68, 3) := by decide +kernel
theorem dX8_redo_49 : decode cX8_redo 49 = .ok (.aload_n 0, 1) := by decide +kernel
theorem dX8_redo_50 : decode cX8_redo 50 = .ok (.getfield 80, 3) := by decide +kernel
theorem dX8_redo_53 : decode cX8_redo 53 = .ok (.ireturn, 1) := by decide +kernel
theorem dX8_paths_0 : decode cX8_paths 0 = .ok (.aload_n 0, 1) := by decide +kernel
theorem dX8_paths_1 : decode cX8_paths 1 = .ok (.getfield 7, 3) := by decide +kernel
theorem dX8_paths_4 : decode cX8_paths 4 = .ok (.iconst 0, 1) := by decide +kernel
theorem dX8_paths_5 : decode cX8_paths 5 = .ok (.iaload, 1) := by decide +kernel
theorem dX8_paths_6 : decode cX8_paths 6 = .ok (.ireturn, 1) := by decide +kernel
theorem dX8_nodes_0 : decode cX8_nodes 0 = .ok (.aload_n 0, 1) := by decide +kernel
theorem dX8_nodes_1 : decode cX8_nodes 1 = .ok (.iload_n 1, 1) := by decide +kernel
theorem dX8_nodes_2 : decode cX8_nodes 2 = .ok (.invokevirtual 55, 3) := by decide +kernel
theorem dX8_nodes_5 : decode cX8_nodes 5 = .ok (.ifCond .eq 11, 3) := by decide +kernel
theorem dX8_nodes_8 : decode cX8_nodes 8 = .ok (.aload_n 0, 1) := by decide +kernel
theorem dX8_nodes_9 : decode cX8_nodes 9 = .ok (.iload_n 1, 1) := by decide +kernel
theorem dX8_nodes_10 : decode cX8_nodes 10 = .ok (.invokevirtual 59, 3) := by decide +kernel
theorem dX8_nodes_13 : decode cX8_nodes 13 = .ok (.goto 5, 3) := by decide +kernel
theorem dX8_nodes_16 : decode cX8_nodes 16 = .ok (.ldc 121, 2) := by decide +kernel
theorem dX8_nodes_18 : decode cX8_nodes 18 = .ok (.ireturn, 1) := by decide +kernel
theorem dX8_isClosed_0 : decode cX8_isClosed 0 = .ok (.aload_n 0, 1) := by decide +kernel
theorem dX8_isClosed_1 : decode cX8_isClosed 1 = .ok (.iload_n 1, 1) := by decide +kernel
theorem dX8_isClosed_2 : decode cX8_isClosed 2 = .ok (.invokevirtual 55, 3) := by decide +kernel
theorem dX8_isClosed_5 : decode cX8_isClosed 5 = .ok (.ifCond .ne 8, 3) := by decide +kernel
theorem dX8_isClosed_8 : decode cX8_isClosed 8 = .ok (.ldc 121, 2) := by decide +kernel
theorem dX8_isClosed_10 : decode cX8_isClosed 10 = .ok (.goto 16, 3) := by decide +kernel
theorem dX8_isClosed_13 : decode cX8_isClosed 13 = .ok (.aload_n 0, 1) := by decide +kernel
theorem dX8_isClosed_14 : decode cX8_isClosed 14 = .ok (.iload_n 1, 1) := by decide +kernel
theorem dX8_isClosed_15 : decode cX8_isClosed 15 = .ok (.invokevirtual 62, 3) := by decide +kernel
theorem dX8_isClosed_18 : decode cX8_isClosed 18 = .ok (.ifCond .eq 7, 3) := by decide +kernel
theorem dX8_isClosed_21 : decode cX8_isClosed 21 = .ok (.iconst 1, 1) := by decide +kernel
theorem dX8_isClosed_22 : decode cX8_isClosed 22 = .ok (.goto 4, 3) := by decide +kernel
theorem dX8_isClosed_25 : decode cX8_isClosed 25 = .ok (.iconst 0, 1) := by decide +kernel
theorem dX8_isClosed_26 : decode cX8_isClosed 26 = .ok (.ireturn, 1) := by decide +kernel
theorem dX8_coordinate_0 : decode cX8_coordinate 0 = .ok (.aload_n 0, 1) := by decide +kernel
theorem dX8_coordinate_1 : decode cX8_coordinate 1 = .ok (.iload_n 1, 1) := by decide +kernel
theorem dX8_coordinate_2 : decode cX8_coordinate 2 = .ok (.iload_n 2, 1) := by decide +kernel
theorem dX8_coordinate_3 : decode cX8_coordinate 3 = .ok (.invokevirtual 127, 3) := by decide +kernel
theorem dX8_coordinate_6 : decode cX8_coordinate 6 = .ok (.ifCond .ne 6, 3) := by decide +kernel
theorem dX8_coordinate_9 : decode cX8_coordinate 9 = .ok (.ldc 121, 2) := by decide +kernel
theorem dX8_coordinate_11 : decode cX8_coordinate 11 = .ok (.ireturn, 1) := by decide +kernel
theorem dX8_coordinate_12 : decode cX8_coordinate 12 = .ok (.iload_n 3, 1) := by decide +kernel
theorem dX8_coordinate_13 : decode cX8_coordinate 13 = .ok (.iconst 0, 1) := by decide +kernel
theorem dX8_coordinate_14 : decode cX8_coordinate 14 = .ok (.iconst 5, 1) := by decide +kernel
theorem dX8_coordinate_15 : decode cX8_coordinate 15 = .ok (.invokestatic 47, 3) := by decide +kernel
theorem dX8_coordinate_18 : decode cX8_coordinate 18 = .ok (.ifCond .eq 17, 3) := by decide +kernel
theorem dX8_coordinate_21 : decode cX8_coordinate 21 = .ok (.aload_n 0, 1) := by decide +kernel
theorem dX8_coordinate_22 : decode cX8_coordinate 22 = .ok (.getfield 7, 3) := by decide +kernel
theorem dX8_coordinate_25 : decode cX8_coordinate 25 = .ok (.iload_n 1, 1) := by decide +kernel
theorem dX8_coordinate_26 : decode cX8_coordinate 26 = .ok (.iload_n 2, 1) := by decide +kernel
theorem dX8_coordinate_27 : decode cX8_coordinate 27 = .ok (.iload_n 3, 1) := by decide +kernel
theorem dX8_coordinate_28 : decode cX8_coordinate 28 = .ok (.invokestatic 92, 3) := by decide +kernel
theorem dX8_coordinate_31 : decode cX8_coordinate 31 = .ok (.iaload, 1) := by decide +kernel
theorem dX8_coordinate_32 : decode cX8_coordinate 32 = .ok (.goto 5, 3) := by decide +kernel
theorem dX8_coordinate_35 : decode cX8_coordinate 35 = .ok (.ldc 108, 2) := by decide +kernel
theorem dX8_coordinate_37 : decode cX8_coordinate 37 = .ok (.ireturn, 1) := by decide +kernel
theorem dX8_ratio_0 : decode cX8_ratio 0 = .ok (.aload_n 0, 1) := by decide +kernel
theorem dX8_ratio_1 : decode cX8_ratio 1 = .ok (.iload_n 1, 1) := by decide +kernel
theorem dX8_ratio_2 : decode cX8_ratio 2 = .ok (.iload_n 2, 1) := by decide +kernel
theorem dX8_ratio_3 : decode cX8_ratio 3 = .ok (.invokevirtual 127, 3) := by decide +kernel
theorem dX8_ratio_6 : decode cX8_ratio 6 = .ok (.ifCond .ne 6, 3) := by decide +kernel
theorem dX8_ratio_9 : decode cX8_ratio 9 = .ok (.ldc 121, 2) := by decide +kernel
theorem dX8_ratio_11 : decode cX8_ratio 11 = .ok (.ireturn, 1) := by decide +kernel
theorem dX8_ratio_12 : decode cX8_ratio 12 = .ok (.aload_n 0, 1) := by decide +kernel
theorem dX8_ratio_13 : decode cX8_ratio 13 = .ok (.iload_n 1, 1) := by decide +kernel
theorem dX8_ratio_14 : decode cX8_ratio 14 = .ok (.iload_n 2, 1) := by decide +kernel
theorem dX8_ratio_15 : decode cX8_ratio 15 = .ok (.invokevirtual 135, 3) := by decide +kernel
theorem dX8_ratio_18 : decode cX8_ratio 18 = .ok (.ifCond .eq 27, 3) := by decide +kernel
theorem dX8_ratio_21 : decode cX8_ratio 21 = .ok (.aload_n 0, 1) := by decide +kernel
theorem dX8_ratio_22 : decode cX8_ratio 22 = .ok (.getfield 7, 3) := by decide +kernel
theorem dX8_ratio_25 : decode cX8_ratio 25 = .ok (.iload_n 1, 1) := by decide +kernel
theorem dX8_ratio_26 : decode cX8_ratio 26 = .ok (.iload_n 2, 1) := by decide +kernel
theorem dX8_ratio_27 : decode cX8_ratio 27 = .ok (.iload_n 3, 1) := by decide +kernel
theorem dX8_ratio_28 : decode cX8_ratio 28 = .ok (.ifCond .eq 8, 3) := by decide +kernel
theorem dX8_ratio_31 : decode cX8_ratio 31 = .ok (.bipush 7, 2) := by decide +kernel
theorem dX8_ratio_33 : decode cX8_ratio 33 = .ok (.goto 5, 3) := by decide +kernel
theorem dX8_ratio_36 : decode cX8_ratio 36 = .ok (.bipush 6, 2) := by decide +kernel
theorem dX8_ratio_38 : decode cX8_ratio 38 = .ok (.invokestatic 92, 3) := by decide +kernel
theorem dX8_ratio_41 : decode cX8_ratio 41 = .ok (.iaload, 1) := by decide +kernel
theorem dX8_ratio_42 : decode cX8_ratio 42 = .ok (.goto 5, 3) := by decide +kernel
theorem dX8_ratio_45 : decode cX8_ratio 45 = .ok (.ldc 184, 2) := by decide +kernel
theorem dX8_ratio_47 : decode cX8_ratio 47 = .ok (.ireturn, 1) := by decide +kernel
theorem dX8_point_0 : decode cX8_point 0 = .ok (.aload_n 0, 1) := by decide +kernel
theorem dX8_point_1 : decode cX8_point 1 = .ok (.iload_n 1, 1) := by decide +kernel
theorem dX8_point_2 : decode cX8_point 2 = .ok (.iload_n 2, 1) := by decide +kernel
theorem dX8_point_3 : decode cX8_point 3 = .ok (.invokevirtual 152, 3) := by decide +kernel
theorem dX8_point_6 : decode cX8_point 6 = .ok (.ifCond .ne 6, 3) := by decide +kernel
theorem dX8_point_9 : decode cX8_point 9 = .ok (.ldc 121, 2) := by decide +kernel
theorem dX8_point_11 : decode cX8_point 11 = .ok (.ireturn, 1) := by decide +kernel
theorem dX8_point_12 : decode cX8_point 12 = .ok (.iload 4, 2) := by decide +kernel
theorem dX8_point_14 : decode cX8_point 14 = .ok (.iconst 1, 1) := by decide +kernel
theorem dX8_point_15 : decode cX8_point 15 = .ok (.bipush 6, 2) := by decide +kernel
theorem dX8_point_17 : decode cX8_point 17 = .ok (.invokestatic 47, 3) := by decide +kernel
theorem dX8_point_20 : decode cX8_point 20 = .ok (.ifCond .eq 13, 3) := by decide +kernel
theorem dX8_point_23 : decode cX8_point 23 = .ok (.iload_n 3, 1) := by decide +kernel
theorem dX8_point_24 : decode cX8_point 24 = .ok (.iconst 0, 1) := by decide +kernel
theorem dX8_point_25 : decode cX8_point 25 = .ok (.iload 4, 2) := by decide +kernel
theorem dX8_point_27 : decode cX8_point 27 = .ok (.invokestatic 47, 3) := by decide +kernel
theorem dX8_point_30 : decode cX8_point 30 = .ok (.ifCond .ne 6, 3) := by decide +kernel
theorem dX8_point_33 : decode cX8_point 33 = .ok (.ldc 108, 2) := by decide +kernel
theorem dX8_point_35 : decode cX8_point 35 = .ok (.ireturn, 1) := by decide +kernel
theorem dX8_point_36 : decode cX8_point 36 = .ok (.aload_n 0, 1) := by decide +kernel
theorem dX8_point_37 : decode cX8_point 37 = .ok (.iload_n 1, 1) := by decide +kernel
theorem dX8_point_38 : decode cX8_point 38 = .ok (.iload_n 2, 1) := by decide +kernel
theorem dX8_point_39 : decode cX8_point 39 = .ok (.invokevirtual 155, 3) := by decide +kernel
theorem dX8_point_42 : decode cX8_point 42 = .ok (.iload 5, 2) := by decide +kernel
theorem dX8_point_44 : decode cX8_point 44 = .ok (.ifCond .eq 7, 3) := by decide +kernel
theorem dX8_point_47 : decode cX8_point 47 = .ok (.iconst 4, 1) := by decide +kernel
theorem dX8_point_48 : decode cX8_point 48 = .ok (.goto 4, 3) := by decide +kernel
theorem dX8_point_51 : decode cX8_point 51 = .ok (.iconst 0, 1) := by decide +kernel
theorem dX8_point_52 : decode cX8_point 52 = .ok (.istore 6, 2) := by decide +kernel
theorem dX8_point_54 : decode cX8_point 54 = .ok (.aload_n 0, 1) := by decide +kernel
theorem dX8_point_55 : decode cX8_point 55 = .ok (.getfield 35, 3) := by decide +kernel
theorem dX8_point_58 : decode cX8_point 58 = .ok (.iload 6, 2) := by decide +kernel
theorem dX8_point_60 : decode cX8_point 60 = .ok (.iaload, 1) := by decide +kernel
theorem dX8_point_61 : decode cX8_point 61 = .ok (.i2l, 1) := by decide +kernel
theorem dX8_point_62 : decode cX8_point 62 = .ok (.aload_n 0, 1) := by decide +kernel
theorem dX8_point_63 : decode cX8_point 63 = .ok (.getfield 35, 3) := by decide +kernel
theorem dX8_point_66 : decode cX8_point 66 = .ok (.iload 6, 2) := by decide +kernel
theorem dX8_point_68 : decode cX8_point 68 = .ok (.iconst 1, 1) := by decide +kernel
theorem dX8_point_69 : decode cX8_point 69 = .ok (.iadd, 1) := by decide +kernel
theorem dX8_point_70 : decode cX8_point 70 = .ok (.iaload, 1) := by decide +kernel
theorem dX8_point_71 : decode cX8_point 71 = .ok (.i2l, 1) := by decide +kernel
theorem dX8_point_72 : decode cX8_point 72 = .ok (.iload_n 3, 1) := by decide +kernel
theorem dX8_point_73 : decode cX8_point 73 = .ok (.iload 4, 2) := by decide +kernel
theorem dX8_point_75 : decode cX8_point 75 = .ok (.invokestatic 148, 3) := by decide +kernel
theorem dX8_point_78 : decode cX8_point 78 = .ok (.lstore 7, 2) := by decide +kernel
theorem dX8_point_80 : decode cX8_point 80 = .ok (.aload_n 0, 1) := by decide +kernel
theorem dX8_point_81 : decode cX8_point 81 = .ok (.getfield 35, 3) := by decide +kernel
theorem dX8_point_84 : decode cX8_point 84 = .ok (.iload 6, 2) := by decide +kernel
theorem dX8_point_86 : decode cX8_point 86 = .ok (.iconst 1, 1) := by decide +kernel
theorem dX8_point_87 : decode cX8_point 87 = .ok (.iadd, 1) := by decide +kernel
theorem dX8_point_88 : decode cX8_point 88 = .ok (.iaload, 1) := by decide +kernel
theorem dX8_point_89 : decode cX8_point 89 = .ok (.i2l, 1) := by decide +kernel
theorem dX8_point_90 : decode cX8_point 90 = .ok (.aload_n 0, 1) := by decide +kernel
theorem dX8_point_91 : decode cX8_point 91 = .ok (.getfield 35, 3) := by decide +kernel
theorem dX8_point_94 : decode cX8_point 94 = .ok (.iload 6, 2) := by decide +kernel
theorem dX8_point_96 : decode cX8_point 96 = .ok (.iconst 2, 1) := by decide +kernel
theorem dX8_point_97 : decode cX8_point 97 = .ok (.iadd, 1) := by decide +kernel
theorem dX8_point_98 : decode cX8_point 98 = .ok (.iaload, 1) := by decide +kernel
theorem dX8_point_99 : decode cX8_point 99 = .ok (.i2l, 1) := by decide +kernel
theorem dX8_point_100 : decode cX8_point 100 = .ok (.iload_n 3, 1) := by decide +kernel
theorem dX8_point_101 : decode cX8_point 101 = .ok (.iload 4, 2) := by decide +kernel
theorem dX8_point_103 : decode cX8_point 103 = .ok (.invokestatic 148, 3) := by decide +kernel
theorem dX8_point_106 : decode cX8_point 106 = .ok (.lstore 9, 2) := by decide +kernel
theorem dX8_point_108 : decode cX8_point 108 = .ok (.aload_n 0, 1) := by decide +kernel
theorem dX8_point_109 : decode cX8_point 109 = .ok (.getfield 35, 3) := by decide +kernel
theorem dX8_point_112 : decode cX8_point 112 = .ok (.iload 6, 2) := by decide +kernel
theorem dX8_point_114 : decode cX8_point 114 = .ok (.iconst 2, 1) := by decide +kernel
theorem dX8_point_115 : decode cX8_point 115 = .ok (.iadd, 1) := by decide +kernel
theorem dX8_point_116 : decode cX8_point 116 = .ok (.iaload, 1) := by decide +kernel
theorem dX8_point_117 : decode cX8_point 117 = .ok (.i2l, 1) := by decide +kernel
theorem dX8_point_118 : decode cX8_point 118 = .ok (.aload_n 0, 1) := by decide +kernel
theorem dX8_point_119 : decode cX8_point 119 = .ok (.getfield 35, 3) := by decide +kernel
theorem dX8_point_122 : decode cX8_point 122 = .ok (.iload 6, 2) := by decide +kernel
theorem dX8_point_124 : decode cX8_point 124 = .ok (.iconst 3, 1) := by decide +kernel
theorem dX8_point_125 : decode cX8_point 125 = .ok (.iadd, 1) := by decide +kernel
theorem dX8_point_126 : decode cX8_point 126 = .ok (.iaload, 1) := by decide +kernel
theorem dX8_point_127 : decode cX8_point 127 = .ok (.i2l, 1) := by decide +kernel
theorem dX8_point_128 : decode cX8_point 128 = .ok (.iload_n 3, 1) := by decide +kernel
theorem dX8_point_129 : decode cX8_point 129 = .ok (.iload 4, 2) := by decide +kernel
theorem dX8_point_131 : decode cX8_point 131 = .ok (.invokestatic 148, 3) := by decide +kernel
theorem dX8_point_134 : decode cX8_point 134 = .ok (.lstore 11, 2) := by decide +kernel
theorem dX8_point_136 : decode cX8_point 136 = .ok (.lload 7, 2) := by decide +kernel
theorem dX8_point_138 : decode cX8_point 138 = .ok (.lload 9, 2) := by decide +kernel
theorem dX8_point_140 : decode cX8_point 140 = .ok (.iload_n 3, 1) := by decide +kernel
theorem dX8_point_141 : decode cX8_point 141 = .ok (.iload 4, 2) := by decide +kernel
theorem dX8_point_143 : decode cX8_point 143 = .ok (.invokestatic 148, 3) := by decide +kernel
theorem dX8_point_146 : decode cX8_point 146 = .ok (.lload 9, 2) := by decide +kernel
theorem dX8_point_148 : decode cX8_point 148 = .ok (.lload 11, 2) := by decide +kernel
theorem dX8_point_150 : decode cX8_point 150 = .ok (.iload_n 3, 1) := by decide +kernel
theorem dX8_point_151 : decode cX8_point 151 = .ok (.iload 4, 2) := by decide +kernel
theorem dX8_point_153 : decode cX8_point 153 = .ok (.invokestatic 148, 3) := by decide +kernel
theorem dX8_point_156 : decode cX8_point 156 = .ok (.iload_n 3, 1) := by decide +kernel
theorem dX8_point_157 : decode cX8_point 157 = .ok (.iload 4, 2) := by decide +kernel
theorem dX8_point_159 : decode cX8_point 159 = .ok (.invokestatic 148, 3) := by decide +kernel
theorem dX8_point_162 : decode cX8_point 162 = .ok (.lstore 13, 2) := by decide +kernel
theorem dX8_point_164 : decode cX8_point 164 = .ok (.iload 4, 2) := by decide +kernel
theorem dX8_point_166 : decode cX8_point 166 = .ok (.i2l, 1) := by decide +kernel
theorem dX8_point_167 : decode cX8_point 167 = .ok (.iload 4, 2) := by decide +kernel
theorem dX8_point_169 : decode cX8_point 169 = .ok (.i2l, 1) := by decide +kernel
theorem dX8_point_170 : decode cX8_point 170 = .ok (.lmul, 1) := by decide +kernel
theorem dX8_point_171 : decode cX8_point 171 = .ok (.iload 4, 2) := by decide +kernel
theorem dX8_point_173 : decode cX8_point 173 = .ok (.i2l, 1) := by decide +kernel
theorem dX8_point_174 : decode cX8_point 174 = .ok (.lmul, 1) := by decide +kernel
theorem dX8_point_175 : decode cX8_point 175 = .ok (.lstore 15, 2) := by decide +kernel
theorem dX8_point_177 : decode cX8_point 177 = .ok (.lload 13, 2) := by decide +kernel
theorem dX8_point_179 : decode cX8_point 179 = .ok (.lload 15, 2) := by decide +kernel
theorem dX8_point_181 : decode cX8_point 181 = .ok (.lrem, 1) := by decide +kernel
theorem dX8_point_182 : decode cX8_point 182 = .ok (.lconst 0, 1) := by decide +kernel
theorem dX8_point_183 : decode cX8_point 183 = .ok (.lcmp, 1) := by decide +kernel
theorem dX8_point_184 : decode cX8_point 184 = .ok (.ifCond .ne 12, 3) := by decide +kernel
theorem dX8_point_187 : decode cX8_point 187 = .ok (.lload 13, 2) := by decide +kernel
theorem dX8_point_189 : decode cX8_point 189 = .ok (.lload 15, 2) := by decide +kernel
theorem dX8_point_191 : decode cX8_point 191 = .ok (.ldiv, 1) := by decide +kernel
theorem dX8_point_192 : decode cX8_point 192 = .ok (.l2i, 1) := by decide +kernel
theorem dX8_point_193 : decode cX8_point 193 = .ok (.goto 5, 3) := by decide +kernel
theorem dX8_point_196 : decode cX8_point 196 = .ok (.ldc 83, 2) := by decide +kernel
theorem dX8_point_198 : decode cX8_point 198 = .ok (.ireturn, 1) := by decide +kernel
theorem dX8_binomial_0 : decode cX8_binomial 0 = .ok (.iconst 1, 1) := by decide +kernel
theorem dX8_binomial_1 : decode cX8_binomial 1 = .ok (.istore_n 2, 1) := by decide +kernel
theorem dX8_binomial_2 : decode cX8_binomial 2 = .ok (.iconst 0, 1) := by decide +kernel
theorem dX8_binomial_3 : decode cX8_binomial 3 = .ok (.istore_n 3, 1) := by decide +kernel
theorem dX8_binomial_4 : decode cX8_binomial 4 = .ok (.iload_n 3, 1) := by decide +kernel
theorem dX8_binomial_5 : decode cX8_binomial 5 = .ok (.iload_n 1, 1) := by decide +kernel
theorem dX8_binomial_6 : decode cX8_binomial 6 = .ok (.if_icmp .ge 19, 3) := by decide +kernel
theorem dX8_binomial_9 : decode cX8_binomial 9 = .ok (.iload_n 2, 1) := by decide +kernel
theorem dX8_binomial_10 : decode cX8_binomial 10 = .ok (.iload_n 0, 1) := by decide +kernel
theorem dX8_binomial_11 : decode cX8_binomial 11 = .ok (.iload_n 3, 1) := by decide +kernel
theorem dX8_binomial_12 : decode cX8_binomial 12 = .ok (.isub, 1) := by decide +kernel
theorem dX8_binomial_13 : decode cX8_binomial 13 = .ok (.imul, 1) := by decide +kernel
theorem dX8_binomial_14 : decode cX8_binomial 14 = .ok (.iload_n 3, 1) := by decide +kernel
theorem dX8_binomial_15 : decode cX8_binomial 15 = .ok (.iconst 1, 1) := by decide +kernel
theorem dX8_binomial_16 : decode cX8_binomial 16 = .ok (.iadd, 1) := by decide +kernel
theorem dX8_binomial_17 : decode cX8_binomial 17 = .ok (.idiv, 1) := by decide +kernel
theorem dX8_binomial_18 : decode cX8_binomial 18 = .ok (.istore_n 2, 1) := by decide +kernel
theorem dX8_binomial_19 : decode cX8_binomial 19 = .ok (.iinc 3 1, 3) := by decide +kernel
theorem dX8_binomial_22 : decode cX8_binomial 22 = .ok (.goto (-18), 3) := by decide +kernel
theorem dX8_binomial_25 : decode cX8_binomial 25 = .ok (.iload_n 2, 1) := by decide +kernel
theorem dX8_binomial_26 : decode cX8_binomial 26 = .ok (.ireturn, 1) := by decide +kernel
theorem dX8_integral_0 : decode cX8_integral 0 = .ok (.aload_n 0, 1) := by decide +kernel
theorem dX8_integral_1 : decode cX8_integral 1 = .ok (.iload_n 1, 1) := by decide +kernel
theorem dX8_integral_2 : decode cX8_integral 2 = .ok (.iload_n 2, 1) := by decide +kernel
theorem dX8_integral_3 : decode cX8_integral 3 = .ok (.invokevirtual 155, 3) := by decide +kernel
theorem dX8_integral_6 : decode cX8_integral 6 = .ok (.lconst 0, 1) := by decide +kernel
theorem dX8_integral_7 : decode cX8_integral 7 = .ok (.lstore_n 3, 1) := by decide +kernel
theorem dX8_integral_8 : decode cX8_integral 8 = .ok (.iconst 0, 1) := by decide +kernel
theorem dX8_integral_9 : decode cX8_integral 9 = .ok (.istore 5, 2) := by decide +kernel
theorem dX8_integral_11 : decode cX8_integral 11 = .ok (.iload 5, 2) := by decide +kernel
theorem dX8_integral_13 : decode cX8_integral 13 = .ok (.iconst 4, 1) := by decide +kernel
theorem dX8_integral_14 : decode cX8_integral 14 = .ok (.if_icmp .ge 88, 3) := by decide +kernel
theorem dX8_integral_17 : decode cX8_integral 17 = .ok (.iconst 0, 1) := by decide +kernel
theorem dX8_integral_18 : decode cX8_integral 18 = .ok (.istore 6, 2) := by decide +kernel
theorem dX8_integral_20 : decode cX8_integral 20 = .ok (.iload 6, 2) := by decide +kernel
theorem dX8_integral_22 : decode cX8_integral 22 = .ok (.iconst 3, 1) := by decide +kernel
theorem dX8_integral_23 : decode cX8_integral 23 = .ok (.if_icmp .ge 73, 3) := by decide +kernel
theorem dX8_integral_26 : decode cX8_integral 26 = .ok (.bipush 30, 2) := by decide +kernel
theorem dX8_integral_28 : decode cX8_integral 28 = .ok (.iconst 3, 1) := by decide +kernel
theorem dX8_integral_29 : decode cX8_integral 29 = .ok (.iload 5, 2) := by decide +kernel
theorem dX8_integral_31 : decode cX8_integral 31 = .ok (.invokestatic 185, 3) := by decide +kernel
theorem dX8_integral_34 : decode cX8_integral 34 = .ok (.imul, 1) := by decide +kernel
theorem dX8_integral_35 : decode cX8_integral 35 = .ok (.iconst 2, 1) := by decide +kernel
theorem dX8_integral_36 : decode cX8_integral 36 = .ok (.iload 6, 2) := by decide +kernel
theorem dX8_integral_38 : decode cX8_integral 38 = .ok (.invokestatic 185, 3) := by decide +kernel
theorem dX8_integral_41 : decode cX8_integral 41 = .ok (.imul, 1) := by decide +kernel
theorem dX8_integral_42 : decode cX8_integral 42 = .ok (.iconst 5, 1) := by decide +kernel
theorem dX8_integral_43 : decode cX8_integral 43 = .ok (.iload 5, 2) := by decide +kernel
theorem dX8_integral_45 : decode cX8_integral 45 = .ok (.iload 6, 2) := by decide +kernel
theorem dX8_integral_47 : decode cX8_integral 47 = .ok (.iadd, 1) := by decide +kernel
theorem dX8_integral_48 : decode cX8_integral 48 = .ok (.invokestatic 185, 3) := by decide +kernel
theorem dX8_integral_51 : decode cX8_integral 51 = .ok (.idiv, 1) := by decide +kernel
theorem dX8_integral_52 : decode cX8_integral 52 = .ok (.istore 7, 2) := by decide +kernel
theorem dX8_integral_54 : decode cX8_integral 54 = .ok (.lload_n 3, 1) := by decide +kernel
theorem dX8_integral_55 : decode cX8_integral 55 = .ok (.iload 7, 2) := by decide +kernel
theorem dX8_integral_57 : decode cX8_integral 57 = .ok (.i2l, 1) := by decide +kernel
theorem dX8_integral_58 : decode cX8_integral 58 = .ok (.aload_n 0, 1) := by decide +kernel
theorem dX8_integral_59 : decode cX8_integral 59 = .ok (.getfield 35, 3) := by decide +kernel
theorem dX8_integral_62 : decode cX8_integral 62 = .ok (.iload 5, 2) := by decide +kernel
theorem dX8_integral_64 : decode cX8_integral 64 = .ok (.iaload, 1) := by decide +kernel
theorem dX8_integral_65 : decode cX8_integral 65 = .ok (.i2l, 1) := by decide +kernel
theorem dX8_integral_66 : decode cX8_integral 66 = .ok (.lmul, 1) := by decide +kernel
theorem dX8_integral_67 : decode cX8_integral 67 = .ok (.aload_n 0, 1) := by decide +kernel
theorem dX8_integral_68 : decode cX8_integral 68 = .ok (.getfield 35, 3) := by decide +kernel
theorem dX8_integral_71 : decode cX8_integral 71 = .ok (.iconst 5, 1) := by decide +kernel
theorem dX8_integral_72 : decode cX8_integral 72 = .ok (.iload 6, 2) := by decide +kernel
theorem dX8_integral_74 : decode cX8_integral 74 = .ok (.iadd, 1) := by decide +kernel
theorem dX8_integral_75 : decode cX8_integral 75 = .ok (.iaload, 1) := by decide +kernel
theorem dX8_integral_76 : decode cX8_integral 76 = .ok (.aload_n 0, 1) := by decide +kernel
theorem dX8_integral_77 : decode cX8_integral 77 = .ok (.getfield 35, 3) := by decide +kernel
theorem dX8_integral_80 : decode cX8_integral 80 = .ok (.iconst 4, 1) := by decide +kernel
theorem dX8_integral_81 : decode cX8_integral 81 = .ok (.iload 6, 2) := by decide +kernel
theorem dX8_integral_83 : decode cX8_integral 83 = .ok (.iadd, 1) := by decide +kernel
theorem dX8_integral_84 : decode cX8_integral 84 = .ok (.iaload, 1) := by decide +kernel
theorem dX8_integral_85 : decode cX8_integral 85 = .ok (.isub, 1) := by decide +kernel
theorem dX8_integral_86 : decode cX8_integral 86 = .ok (.i2l, 1) := by decide +kernel
theorem dX8_integral_87 : decode cX8_integral 87 = .ok (.lmul, 1) := by decide +kernel
theorem dX8_integral_88 : decode cX8_integral 88 = .ok (.ladd, 1) := by decide +kernel
theorem dX8_integral_89 : decode cX8_integral 89 = .ok (.lstore_n 3, 1) := by decide +kernel
theorem dX8_integral_90 : decode cX8_integral 90 = .ok (.iinc 6 1, 3) := by decide +kernel
theorem dX8_integral_93 : decode cX8_integral 93 = .ok (.goto (-73), 3) := by decide +kernel
theorem dX8_integral_96 : decode cX8_integral 96 = .ok (.iinc 5 1, 3) := by decide +kernel
theorem dX8_integral_99 : decode cX8_integral 99 = .ok (.goto (-88), 3) := by decide +kernel
theorem dX8_integral_102 : decode cX8_integral 102 = .ok (.lload_n 3, 1) := by decide +kernel
theorem dX8_integral_103 : decode cX8_integral 103 = .ok (.lreturn, 1) := by decide +kernel
theorem dX8_areaOf_0 : decode cX8_areaOf 0 = .ok (.lconst 0, 1) := by decide +kernel
theorem dX8_areaOf_1 : decode cX8_areaOf 1 = .ok (.lstore_n 2, 1) := by decide +kernel
theorem dX8_areaOf_2 : decode cX8_areaOf 2 = .ok (.iconst 0, 1) := by decide +kernel
theorem dX8_areaOf_3 : decode cX8_areaOf 3 = .ok (.istore 4, 2) := by decide +kernel
theorem dX8_areaOf_5 : decode cX8_areaOf 5 = .ok (.iload 4, 2) := by decide +kernel
theorem dX8_areaOf_7 : decode cX8_areaOf 7 = .ok (.aload_n 0, 1) := by decide +kernel
theorem dX8_areaOf_8 : decode cX8_areaOf 8 = .ok (.iload_n 1, 1) := by decide +kernel
theorem dX8_areaOf_9 : decode cX8_areaOf 9 = .ok (.invokevirtual 65, 3) := by decide +kernel
theorem dX8_areaOf_12 : decode cX8_areaOf 12 = .ok (.if_icmp .ge 19, 3) := by decide +kernel
theorem dX8_areaOf_15 : decode cX8_areaOf 15 = .ok (.lload_n 2, 1) := by decide +kernel
theorem dX8_areaOf_16 : decode cX8_areaOf 16 = .ok (.aload_n 0, 1) := by decide +kernel
theorem dX8_areaOf_17 : decode cX8_areaOf 17 = .ok (.iload_n 1, 1) := by decide +kernel
theorem dX8_areaOf_18 : decode cX8_areaOf 18 = .ok (.iload 4, 2) := by decide +kernel
theorem dX8_areaOf_20 : decode cX8_areaOf 20 = .ok (.invokevirtual 188, 3) := by decide +kernel
theorem dX8_areaOf_23 : decode cX8_areaOf 23 = .ok (.ladd, 1) := by decide +kernel
theorem dX8_areaOf_24 : decode cX8_areaOf 24 = .ok (.lstore_n 2, 1) := by decide +kernel
theorem dX8_areaOf_25 : decode cX8_areaOf 25 = .ok (.iinc 4 1, 3) := by decide +kernel
theorem dX8_areaOf_28 : decode cX8_areaOf 28 = .ok (.goto (-23), 3) := by decide +kernel
theorem dX8_areaOf_31 : decode cX8_areaOf 31 = .ok (.lload_n 2, 1) := by decide +kernel
theorem dX8_areaOf_32 : decode cX8_areaOf 32 = .ok (.lreturn, 1) := by decide +kernel
theorem dX8_area_0 : decode cX8_area 0 = .ok (.aload_n 0, 1) := by decide +kernel
theorem dX8_area_1 : decode cX8_area 1 = .ok (.iload_n 1, 1) := by decide +kernel
theorem dX8_area_2 : decode cX8_area 2 = .ok (.invokevirtual 55, 3) := by decide +kernel
theorem dX8_area_5 : decode cX8_area 5 = .ok (.ifCond .ne 7, 3) := by decide +kernel
theorem dX8_area_8 : decode cX8_area 8 = .ok (.ldc2_w 192, 3) := by decide +kernel
theorem dX8_area_11 : decode cX8_area 11 = .ok (.lreturn, 1) := by decide +kernel
theorem dX8_area_12 : decode cX8_area 12 = .ok (.aload_n 0, 1) := by decide +kernel
theorem dX8_area_13 : decode cX8_area 13 = .ok (.iload_n 1, 1) := by decide +kernel
theorem dX8_area_14 : decode cX8_area 14 = .ok (.invokevirtual 62, 3) := by decide +kernel
theorem dX8_area_17 : decode cX8_area 17 = .ok (.ifCond .eq 11, 3) := by decide +kernel
theorem dX8_area_20 : decode cX8_area 20 = .ok (.aload_n 0, 1) := by decide +kernel
theorem dX8_area_21 : decode cX8_area 21 = .ok (.iload_n 1, 1) := by decide +kernel
theorem dX8_area_22 : decode cX8_area 22 = .ok (.invokevirtual 194, 3) := by decide +kernel
theorem dX8_area_25 : decode cX8_area 25 = .ok (.goto 6, 3) := by decide +kernel
theorem dX8_area_28 : decode cX8_area 28 = .ok (.ldc2_w 198, 3) := by decide +kernel
theorem dX8_area_31 : decode cX8_area 31 = .ok (.lreturn, 1) := by decide +kernel
theorem dX8_box_0 : decode cX8_box 0 = .ok (.aload_n 0, 1) := by decide +kernel
theorem dX8_box_1 : decode cX8_box 1 = .ok (.iload_n 1, 1) := by decide +kernel
theorem dX8_box_2 : decode cX8_box 2 = .ok (.invokevirtual 55, 3) := by decide +kernel
theorem dX8_box_5 : decode cX8_box 5 = .ok (.ifCond .ne 6, 3) := by decide +kernel
theorem dX8_box_8 : decode cX8_box 8 = .ok (.ldc 121, 2) := by decide +kernel
theorem dX8_box_10 : decode cX8_box 10 = .ok (.ireturn, 1) := by decide +kernel
theorem dX8_box_11 : decode cX8_box 11 = .ok (.iload_n 2, 1) := by decide +kernel
theorem dX8_box_12 : decode cX8_box 12 = .ok (.iconst 0, 1) := by decide +kernel
theorem dX8_box_13 : decode cX8_box 13 = .ok (.iconst 3, 1) := by decide +kernel
theorem dX8_box_14 : decode cX8_box 14 = .ok (.invokestatic 47, 3) := by decide +kernel
theorem dX8_box_17 : decode cX8_box 17 = .ok (.ifCond .ne 6, 3) := by decide +kernel
theorem dX8_box_20 : decode cX8_box 20 = .ok (.ldc 108, 2) := by decide +kernel
theorem dX8_box_22 : decode cX8_box 22 = .ok (.ireturn, 1) := by decide +kernel
theorem dX8_box_23 : decode cX8_box 23 = .ok (.aload_n 0, 1) := by decide +kernel
theorem dX8_box_24 : decode cX8_box 24 = .ok (.getfield 7, 3) := by decide +kernel
theorem dX8_box_27 : decode cX8_box 27 = .ok (.iload_n 1, 1) := by decide +kernel
theorem dX8_box_28 : decode cX8_box 28 = .ok (.iconst 0, 1) := by decide +kernel
theorem dX8_box_29 : decode cX8_box 29 = .ok (.iload_n 2, 1) := by decide +kernel
theorem dX8_box_30 : decode cX8_box 30 = .ok (.iconst 2, 1) := by decide +kernel
theorem dX8_box_31 : decode cX8_box 31 = .ok (.idiv, 1) := by decide +kernel
theorem dX8_box_32 : decode cX8_box 32 = .ok (.invokestatic 92, 3) := by decide +kernel
theorem dX8_box_35 : decode cX8_box 35 = .ok (.iaload, 1) := by decide +kernel
theorem dX8_box_36 : decode cX8_box 36 = .ok (.istore_n 3, 1) := by decide +kernel
theorem dX8_box_37 : decode cX8_box 37 = .ok (.iconst 0, 1) := by decide +kernel
theorem dX8_box_38 : decode cX8_box 38 = .ok (.istore 4, 2) := by decide +kernel
theorem dX8_box_40 : decode cX8_box 40 = .ok (.iload 4, 2) := by decide +kernel
theorem dX8_box_42 : decode cX8_box 42 = .ok (.aload_n 0, 1) := by decide +kernel
theorem dX8_box_43 : decode cX8_box 43 = .ok (.iload_n 1, 1) := by decide +kernel
theorem dX8_box_44 : decode cX8_box 44 = .ok (.invokevirtual 65, 3) := by decide +kernel
theorem dX8_box_47 : decode cX8_box 47 = .ok (.if_icmp .ge 80, 3) := by decide +kernel
theorem dX8_box_50 : decode cX8_box 50 = .ok (.aload_n 0, 1) := by decide +kernel
theorem dX8_box_51 : decode cX8_box 51 = .ok (.iload_n 1, 1) := by decide +kernel
theorem dX8_box_52 : decode cX8_box 52 = .ok (.iload 4, 2) := by decide +kernel
theorem dX8_box_54 : decode cX8_box 54 = .ok (.invokevirtual 155, 3) := by decide +kernel
theorem dX8_box_57 : decode cX8_box 57 = .ok (.iconst 0, 1) := by decide +kernel
theorem dX8_box_58 : decode cX8_box 58 = .ok (.istore 5, 2) := by decide +kernel
theorem dX8_box_60 : decode cX8_box 60 = .ok (.iload 5, 2) := by decide +kernel
theorem dX8_box_62 : decode cX8_box 62 = .ok (.iconst 4, 1) := by decide +kernel
theorem dX8_box_63 : decode cX8_box 63 = .ok (.if_icmp .ge 58, 3) := by decide +kernel
theorem dX8_box_66 : decode cX8_box 66 = .ok (.aload_n 0, 1) := by decide +kernel
theorem dX8_box_67 : decode cX8_box 67 = .ok (.getfield 35, 3) := by decide +kernel
theorem dX8_box_70 : decode cX8_box 70 = .ok (.iconst 4, 1) := by decide +kernel
theorem dX8_box_71 : decode cX8_box 71 = .ok (.iload_n 2, 1) := by decide +kernel
theorem dX8_box_72 : decode cX8_box 72 = .ok (.iconst 2, 1) := by decide +kernel
theorem dX8_box_73 : decode cX8_box 73 = .ok (.idiv, 1) := by decide +kernel
theorem dX8_box_74 : decode cX8_box 74 = .ok (.imul, 1) := by decide +kernel
theorem dX8_box_75 : decode cX8_box 75 = .ok (.iload 5, 2) := by decide +kernel
theorem dX8_box_77 : decode cX8_box 77 = .ok (.iadd, 1) := by decide +kernel
theorem dX8_box_78 : decode cX8_box 78 = .ok (.iaload, 1) := by decide +kernel
theorem dX8_box_79 : decode cX8_box 79 = .ok (.istore 6, 2) := by decide +kernel
theorem dX8_box_81 : decode cX8_box 81 = .ok (.iload_n 2, 1) := by decide +kernel
theorem dX8_box_82 : decode cX8_box 82 = .ok (.iconst 2, 1) := by decide +kernel
theorem dX8_box_83 : decode cX8_box 83 = .ok (.irem, 1) := by decide +kernel
theorem dX8_box_84 : decode cX8_box 84 = .ok (.ifCond .ne 18, 3) := by decide +kernel
theorem dX8_box_87 : decode cX8_box 87 = .ok (.iload 6, 2) := by decide +kernel
theorem dX8_box_89 : decode cX8_box 89 = .ok (.iload_n 3, 1) := by decide +kernel
theorem dX8_box_90 : decode cX8_box 90 = .ok (.if_icmp .ge 8, 3) := by decide +kernel
theorem dX8_box_93 : decode cX8_box 93 = .ok (.iload 6, 2) := by decide +kernel
theorem dX8_box_95 : decode cX8_box 95 = .ok (.goto 19, 3) := by decide +kernel
theorem dX8_box_98 : decode cX8_box 98 = .ok (.iload_n 3, 1) := by decide +kernel
theorem dX8_box_99 : decode cX8_box 99 = .ok (.goto 15, 3) := by decide +kernel
theorem dX8_box_102 : decode cX8_box 102 = .ok (.iload 6, 2) := by decide +kernel
theorem dX8_box_104 : decode cX8_box 104 = .ok (.iload_n 3, 1) := by decide +kernel
theorem dX8_box_105 : decode cX8_box 105 = .ok (.if_icmp .le 8, 3) := by decide +kernel
theorem dX8_box_108 : decode cX8_box 108 = .ok (.iload 6, 2) := by decide +kernel
theorem dX8_box_110 : decode cX8_box 110 = .ok (.goto 4, 3) := by decide +kernel
theorem dX8_box_113 : decode cX8_box 113 = .ok (.iload_n 3, 1) := by decide +kernel
theorem dX8_box_114 : decode cX8_box 114 = .ok (.istore_n 3, 1) := by decide +kernel
theorem dX8_box_115 : decode cX8_box 115 = .ok (.iinc 5 1, 3) := by decide +kernel
theorem dX8_box_118 : decode cX8_box 118 = .ok (.goto (-58), 3) := by decide +kernel
theorem dX8_box_121 : decode cX8_box 121 = .ok (.iinc 4 1, 3) := by decide +kernel
theorem dX8_box_124 : decode cX8_box 124 = .ok (.goto (-84), 3) := by decide +kernel
theorem dX8_box_127 : decode cX8_box 127 = .ok (.iload_n 3, 1) := by decide +kernel
theorem dX8_box_128 : decode cX8_box 128 = .ok (.ireturn, 1) := by decide +kernel
theorem dX8_find_0 : decode cX8_find 0 = .ok (.iload_n 1, 1) := by decide +kernel
theorem dX8_find_1 : decode cX8_find 1 = .ok (.iload_n 2, 1) := by decide +kernel
theorem dX8_find_2 : decode cX8_find 2 = .ok (.invokestatic 104, 3) := by decide +kernel
theorem dX8_find_5 : decode cX8_find 5 = .ok (.ifCond .ne 6, 3) := by decide +kernel
theorem dX8_find_8 : decode cX8_find 8 = .ok (.ldc 108, 2) := by decide +kernel
theorem dX8_find_10 : decode cX8_find 10 = .ok (.ireturn, 1) := by decide +kernel
theorem dX8_find_11 : decode cX8_find 11 = .ok (.iconst 0, 1) := by decide +kernel
theorem dX8_find_12 : decode cX8_find 12 = .ok (.istore_n 3, 1) := by decide +kernel
theorem dX8_find_13 : decode cX8_find 13 = .ok (.iload_n 3, 1) := by decide +kernel
theorem dX8_find_14 : decode cX8_find 14 = .ok (.aload_n 0, 1) := by decide +kernel
theorem dX8_find_15 : decode cX8_find 15 = .ok (.getfield 7, 3) := by decide +kernel
theorem dX8_find_18 : decode cX8_find 18 = .ok (.iconst 0, 1) := by decide +kernel
theorem dX8_find_19 : decode cX8_find 19 = .ok (.iaload, 1) := by decide +kernel
theorem dX8_find_20 : decode cX8_find 20 = .ok (.if_icmp .ge 74, 3) := by decide +kernel
theorem dX8_find_23 : decode cX8_find 23 = .ok (.iconst 0, 1) := by decide +kernel
theorem dX8_find_24 : decode cX8_find 24 = .ok (.istore 4, 2) := by decide +kernel
theorem dX8_find_26 : decode cX8_find 26 = .ok (.iload 4, 2) := by decide +kernel
theorem dX8_find_28 : decode cX8_find 28 = .ok (.aload_n 0, 1) := by decide +kernel
theorem dX8_find_29 : decode cX8_find 29 = .ok (.iload_n 3, 1) := by decide +kernel
theorem dX8_find_30 : decode cX8_find 30 = .ok (.invokevirtual 59, 3) := by decide +kernel
theorem dX8_find_33 : decode cX8_find 33 = .ok (.if_icmp .ge 55, 3) := by decide +kernel
theorem dX8_find_36 : decode cX8_find 36 = .ok (.aload_n 0, 1) := by decide +kernel
theorem dX8_find_37 : decode cX8_find 37 = .ok (.getfield 7, 3) := by decide +kernel
theorem dX8_find_40 : decode cX8_find 40 = .ok (.iload_n 3, 1) := by decide +kernel
theorem dX8_find_41 : decode cX8_find 41 = .ok (.iload 4, 2) := by decide +kernel
theorem dX8_find_43 : decode cX8_find 43 = .ok (.iconst 0, 1) := by decide +kernel
theorem dX8_find_44 : decode cX8_find 44 = .ok (.invokestatic 92, 3) := by decide +kernel
theorem dX8_find_47 : decode cX8_find 47 = .ok (.iaload, 1) := by decide +kernel
theorem dX8_find_48 : decode cX8_find 48 = .ok (.iload_n 1, 1) := by decide +kernel
theorem dX8_find_49 : decode cX8_find 49 = .ok (.ldc 113, 2) := by decide +kernel
theorem dX8_find_51 : decode cX8_find 51 = .ok (.imul, 1) := by decide +kernel
theorem dX8_find_52 : decode cX8_find 52 = .ok (.if_icmp .ne 30, 3) := by decide +kernel
theorem dX8_find_55 : decode cX8_find 55 = .ok (.aload_n 0, 1) := by decide +kernel
theorem dX8_find_56 : decode cX8_find 56 = .ok (.getfield 7, 3) := by decide +kernel
theorem dX8_find_59 : decode cX8_find 59 = .ok (.iload_n 3, 1) := by decide +kernel
theorem dX8_find_60 : decode cX8_find 60 = .ok (.iload 4, 2) := by decide +kernel
theorem dX8_find_62 : decode cX8_find 62 = .ok (.iconst 1, 1) := by decide +kernel
theorem dX8_find_63 : decode cX8_find 63 = .ok (.invokestatic 92, 3) := by decide +kernel
theorem dX8_find_66 : decode cX8_find 66 = .ok (.iaload, 1) := by decide +kernel
theorem dX8_find_67 : decode cX8_find 67 = .ok (.iload_n 2, 1) := by decide +kernel
theorem dX8_find_68 : decode cX8_find 68 = .ok (.ldc 113, 2) := by decide +kernel
theorem dX8_find_70 : decode cX8_find 70 = .ok (.imul, 1) := by decide +kernel
theorem dX8_find_71 : decode cX8_find 71 = .ok (.if_icmp .ne 11, 3) := by decide +kernel
theorem dX8_find_74 : decode cX8_find 74 = .ok (.bipush 100, 2) := by decide +kernel
theorem dX8_find_76 : decode cX8_find 76 = .ok (.iload_n 3, 1) := by decide +kernel
theorem dX8_find_77 : decode cX8_find 77 = .ok (.imul, 1) := by decide +kernel
theorem dX8_find_78 : decode cX8_find 78 = .ok (.iload 4, 2) := by decide +kernel
theorem dX8_find_80 : decode cX8_find 80 = .ok (.iadd, 1) := by decide +kernel
theorem dX8_find_81 : decode cX8_find 81 = .ok (.ireturn, 1) := by decide +kernel
theorem dX8_find_82 : decode cX8_find 82 = .ok (.iinc 4 1, 3) := by decide +kernel
theorem dX8_find_85 : decode cX8_find 85 = .ok (.goto (-59), 3) := by decide +kernel
theorem dX8_find_88 : decode cX8_find 88 = .ok (.iinc 3 1, 3) := by decide +kernel
theorem dX8_find_91 : decode cX8_find 91 = .ok (.goto (-78), 3) := by decide +kernel
theorem dX8_find_94 : decode cX8_find 94 = .ok (.ldc 184, 2) := by decide +kernel
theorem dX8_find_96 : decode cX8_find 96 = .ok (.ireturn, 1) := by decide +kernel
theorem dX8_corners_0 : decode cX8_corners 0 = .ok (.aload_n 0, 1) := by decide +kernel
theorem dX8_corners_1 : decode cX8_corners 1 = .ok (.iload_n 1, 1) := by decide +kernel
theorem dX8_corners_2 : decode cX8_corners 2 = .ok (.invokevirtual 55, 3) := by decide +kernel
theorem dX8_corners_5 : decode cX8_corners 5 = .ok (.ifCond .ne 6, 3) := by decide +kernel
theorem dX8_corners_8 : decode cX8_corners 8 = .ok (.ldc 121, 2) := by decide +kernel
theorem dX8_corners_10 : decode cX8_corners 10 = .ok (.ireturn, 1) := by decide +kernel
theorem dX8_corners_11 : decode cX8_corners 11 = .ok (.iconst 0, 1) := by decide +kernel
theorem dX8_corners_12 : decode cX8_corners 12 = .ok (.istore_n 2, 1) := by decide +kernel
theorem dX8_corners_13 : decode cX8_corners 13 = .ok (.iconst 0, 1) := by decide +kernel
theorem dX8_corners_14 : decode cX8_corners 14 = .ok (.istore_n 3, 1) := by decide +kernel
theorem dX8_corners_15 : decode cX8_corners 15 = .ok (.iload_n 3, 1) := by decide +kernel
theorem dX8_corners_16 : decode cX8_corners 16 = .ok (.aload_n 0, 1) := by decide +kernel
theorem dX8_corners_17 : decode cX8_corners 17 = .ok (.iload_n 1, 1) := by decide +kernel
theorem dX8_corners_18 : decode cX8_corners 18 = .ok (.invokevirtual 59, 3) := by decide +kernel
theorem dX8_corners_21 : decode cX8_corners 21 = .ok (.if_icmp .ge 61, 3) := by decide +kernel
theorem dX8_corners_24 : decode cX8_corners 24 = .ok (.aload_n 0, 1) := by decide +kernel
theorem dX8_corners_25 : decode cX8_corners 25 = .ok (.iload_n 1, 1) := by decide +kernel
theorem dX8_corners_26 : decode cX8_corners 26 = .ok (.invokevirtual 62, 3) := by decide +kernel
theorem dX8_corners_29 : decode cX8_corners 29 = .ok (.ifCond .ne 18, 3) := by decide +kernel
theorem dX8_corners_32 : decode cX8_corners 32 = .ok (.iload_n 3, 1) := by decide +kernel
theorem dX8_corners_33 : decode cX8_corners 33 = .ok (.ifCond .le 18, 3) := by decide +kernel
theorem dX8_corners_36 : decode cX8_corners 36 = .ok (.iload_n 3, 1) := by decide +kernel
theorem dX8_corners_37 : decode cX8_corners 37 = .ok (.aload_n 0, 1) := by decide +kernel
theorem dX8_corners_38 : decode cX8_corners 38 = .ok (.iload_n 1, 1) := by decide +kernel
theorem dX8_corners_39 : decode cX8_corners 39 = .ok (.invokevirtual 59, 3) := by decide +kernel
theorem dX8_corners_42 : decode cX8_corners 42 = .ok (.iconst 1, 1) := by decide +kernel
theorem dX8_corners_43 : decode cX8_corners 43 = .ok (.isub, 1) := by decide +kernel
theorem dX8_corners_44 : decode cX8_corners 44 = .ok (.if_icmp .ge 7, 3) := by decide +kernel
theorem dX8_corners_47 : decode cX8_corners 47 = .ok (.iconst 1, 1) := by decide +kernel
theorem dX8_corners_48 : decode cX8_corners 48 = .ok (.goto 4, 3) := by decide +kernel
theorem dX8_corners_51 : decode cX8_corners 51 = .ok (.iconst 0, 1) := by decide +kernel
theorem dX8_corners_52 : decode cX8_corners 52 = .ok (.istore 4, 2) := by decide +kernel
theorem dX8_corners_54 : decode cX8_corners 54 = .ok (.iload_n 2, 1) := by decide +kernel
theorem dX8_corners_55 : decode cX8_corners 55 = .ok (.iload 4, 2) := by decide +kernel
theorem dX8_corners_57 : decode cX8_corners 57 = .ok (.ifCond .eq 16, 3) := by decide +kernel
theorem dX8_corners_60 : decode cX8_corners 60 = .ok (.aload_n 0, 1) := by decide +kernel
theorem dX8_corners_61 : decode cX8_corners 61 = .ok (.iload_n 1, 1) := by decide +kernel
theorem dX8_corners_62 : decode cX8_corners 62 = .ok (.iload_n 3, 1) := by decide +kernel
theorem dX8_corners_63 : decode cX8_corners 63 = .ok (.invokevirtual 135, 3) := by decide +kernel
theorem dX8_corners_66 : decode cX8_corners 66 = .ok (.ifCond .ne 7, 3) := by decide +kernel
theorem dX8_corners_69 : decode cX8_corners 69 = .ok (.iconst 1, 1) := by decide +kernel
theorem dX8_corners_70 : decode cX8_corners 70 = .ok (.goto 4, 3) := by decide +kernel
theorem dX8_corners_73 : decode cX8_corners 73 = .ok (.iconst 0, 1) := by decide +kernel
theorem dX8_corners_74 : decode cX8_corners 74 = .ok (.iadd, 1) := by decide +kernel
theorem dX8_corners_75 : decode cX8_corners 75 = .ok (.istore_n 2, 1) := by decide +kernel
theorem dX8_corners_76 : decode cX8_corners 76 = .ok (.iinc 3 1, 3) := by decide +kernel
theorem dX8_corners_79 : decode cX8_corners 79 = .ok (.goto (-64), 3) := by decide +kernel
theorem dX8_corners_82 : decode cX8_corners 82 = .ok (.iload_n 2, 1) := by decide +kernel
theorem dX8_corners_83 : decode cX8_corners 83 = .ok (.ireturn, 1) := by decide +kernel
theorem dX8_append_0 : decode cX8_append 0 = .ok (.iload_n 1, 1) := by decide +kernel
theorem dX8_append_1 : decode cX8_append 1 = .ok (.iconst 0, 1) := by decide +kernel
theorem dX8_append_2 : decode cX8_append 2 = .ok (.bipush 127, 2) := by decide +kernel
theorem dX8_append_4 : decode cX8_append 4 = .ok (.invokestatic 47, 3) := by decide +kernel
theorem dX8_append_7 : decode cX8_append 7 = .ok (.ifCond .ne 6, 3) := by decide +kernel
theorem dX8_append_10 : decode cX8_append 10 = .ok (.ldc 108, 2) := by decide +kernel
theorem dX8_append_12 : decode cX8_append 12 = .ok (.ireturn, 1) := by decide +kernel
theorem dX8_append_13 : decode cX8_append 13 = .ok (.aload_n 0, 1) := by decide +kernel
theorem dX8_append_14 : decode cX8_append 14 = .ok (.getfield 200, 3) := by decide +kernel
theorem dX8_append_17 : decode cX8_append 17 = .ok (.bipush 120, 2) := by decide +kernel
theorem dX8_append_19 : decode cX8_append 19 = .ok (.if_icmp .ne 6, 3) := by decide +kernel
theorem dX8_append_22 : decode cX8_append 22 = .ok (.ldc 109, 2) := by decide +kernel
theorem dX8_append_24 : decode cX8_append 24 = .ok (.ireturn, 1) := by decide +kernel
theorem dX8_append_25 : decode cX8_append 25 = .ok (.aload_n 0, 1) := by decide +kernel
theorem dX8_append_26 : decode cX8_append 26 = .ok (.getfield 29, 3) := by decide +kernel
theorem dX8_append_29 : decode cX8_append 29 = .ok (.aload_n 0, 1) := by decide +kernel
theorem dX8_append_30 : decode cX8_append 30 = .ok (.getfield 200, 3) := by decide +kernel
theorem dX8_append_33 : decode cX8_append 33 = .ok (.iload_n 1, 1) := by decide +kernel
theorem dX8_append_34 : decode cX8_append 34 = .ok (.iastore, 1) := by decide +kernel
theorem dX8_append_35 : decode cX8_append 35 = .ok (.aload_n 0, 1) := by decide +kernel
theorem dX8_append_36 : decode cX8_append 36 = .ok (.dup, 1) := by decide +kernel
theorem dX8_append_37 : decode cX8_append 37 = .ok (.getfield 200, 3) := by decide +kernel
theorem dX8_append_40 : decode cX8_append 40 = .ok (.iconst 1, 1) := by decide +kernel
theorem dX8_append_41 : decode cX8_append 41 = .ok (.iadd, 1) := by decide +kernel
theorem dX8_append_42 : decode cX8_append 42 = .ok (.putfield 200, 3) := by decide +kernel
theorem dX8_append_45 : decode cX8_append 45 = .ok (.aload_n 0, 1) := by decide +kernel
theorem dX8_append_46 : decode cX8_append 46 = .ok (.getfield 200, 3) := by decide +kernel
theorem dX8_append_49 : decode cX8_append 49 = .ok (.ireturn, 1) := by decide +kernel
theorem dX8_clearText_0 : decode cX8_clearText 0 = .ok (.aload_n 0, 1) := by decide +kernel
theorem dX8_clearText_1 : decode cX8_clearText 1 = .ok (.getfield 200, 3) := by decide +kernel
theorem dX8_clearText_4 : decode cX8_clearText 4 = .ok (.istore_n 1, 1) := by decide +kernel
theorem dX8_clearText_5 : decode cX8_clearText 5 = .ok (.aload_n 0, 1) := by decide +kernel
theorem dX8_clearText_6 : decode cX8_clearText 6 = .ok (.iconst 0, 1) := by decide +kernel
theorem dX8_clearText_7 : decode cX8_clearText 7 = .ok (.putfield 200, 3) := by decide +kernel
theorem dX8_clearText_10 : decode cX8_clearText 10 = .ok (.iload_n 1, 1) := by decide +kernel
theorem dX8_clearText_11 : decode cX8_clearText 11 = .ok (.ireturn, 1) := by decide +kernel
theorem dX8_here_0 : decode cX8_here 0 = .ok (.aload_n 0, 1) := by decide +kernel
theorem dX8_here_1 : decode cX8_here 1 = .ok (.getfield 203, 3) := by decide +kernel
theorem dX8_here_4 : decode cX8_here 4 = .ok (.aload_n 0, 1) := by decide +kernel
theorem dX8_here_5 : decode cX8_here 5 = .ok (.getfield 200, 3) := by decide +kernel
theorem dX8_here_8 : decode cX8_here 8 = .ok (.if_icmp .ge 15, 3) := by decide +kernel
theorem dX8_here_11 : decode cX8_here 11 = .ok (.aload_n 0, 1) := by decide +kernel
theorem dX8_here_12 : decode cX8_here 12 = .ok (.getfield 29, 3) := by decide +kernel
theorem dX8_here_15 : decode cX8_here 15 = .ok (.aload_n 0, 1) := by decide +kernel
theorem dX8_here_16 : decode cX8_here 16 = .ok (.getfield 203, 3) := by decide +kernel
theorem dX8_here_19 : decode cX8_here 19 = .ok (.iaload, 1) := by decide +kernel
theorem dX8_here_20 : decode cX8_here 20 = .ok (.goto 4, 3) := by decide +kernel
theorem dX8_here_23 : decode cX8_here 23 = .ok (.iconst (-1), 1) := by decide +kernel
theorem dX8_here_24 : decode cX8_here 24 = .ok (.ireturn, 1) := by decide +kernel
theorem dX8_takes_0 : decode cX8_takes 0 = .ok (.aload_n 0, 1) := by decide +kernel
theorem dX8_takes_1 : decode cX8_takes 1 = .ok (.invokevirtual 206, 3) := by decide +kernel
theorem dX8_takes_4 : decode cX8_takes 4 = .ok (.iload_n 1, 1) := by decide +kernel
theorem dX8_takes_5 : decode cX8_takes 5 = .ok (.if_icmp .ne 7, 3) := by decide +kernel
theorem dX8_takes_8 : decode cX8_takes 8 = .ok (.iconst 1, 1) := by decide +kernel
theorem dX8_takes_9 : decode cX8_takes 9 = .ok (.goto 4, 3) := by decide +kernel
theorem dX8_takes_12 : decode cX8_takes 12 = .ok (.iconst 0, 1) := by decide +kernel
theorem dX8_takes_13 : decode cX8_takes 13 = .ok (.istore_n 2, 1) := by decide +kernel
theorem dX8_takes_14 : decode cX8_takes 14 = .ok (.aload_n 0, 1) := by decide +kernel
theorem dX8_takes_15 : decode cX8_takes 15 = .ok (.dup, 1) := by decide +kernel
theorem dX8_takes_16 : decode cX8_takes 16 = .ok (.getfield 203, 3) := by decide +kernel
theorem dX8_takes_19 : decode cX8_takes 19 = .ok (.iload_n 2, 1) := by decide +kernel
theorem dX8_takes_20 : decode cX8_takes 20 = .ok (.ifCond .eq 7, 3) := by decide +kernel
