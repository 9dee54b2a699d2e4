theorem dX2_readWord_71 : decode cX2_readWord 71 = .ok (.aload_n 0, 1) := by decide +kernel
theorem dX2_readWord_72 : decode cX2_readWord 72 = .ok (.getfield 47, 3) := by decide +kernel
theorem dX2_readWord_75 : decode cX2_readWord 75 = .ok (.aload_n 0, 1) := by decide +kernel
theorem dX2_readWord_76 : decode cX2_readWord 76 = .ok (.getfield 36, 3) := by decide +kernel
theorem dX2_readWord_79 : decode cX2_readWord 79 = .ok (.getfield 73, 3) := by decide +kernel
theorem dX2_readWord_82 : decode cX2_readWord 82 = .ok (.aload_n 0, 1) := by decide +kernel
theorem dX2_readWord_83 : decode cX2_readWord 83 = .ok (.getfield 27, 3) := by decide +kernel
theorem dX2_readWord_86 : decode cX2_readWord 86 = .ok (.iload_n 2, 1) := by decide +kernel
theorem dX2_readWord_87 : decode cX2_readWord 87 = .ok (.iadd, 1) := by decide +kernel
theorem dX2_readWord_88 : decode cX2_readWord 88 = .ok (.iaload, 1) := by decide +kernel
theorem dX2_readWord_89 : decode cX2_readWord 89 = .ok (.invokevirtual 195, 3) := by decide +kernel
theorem dX2_readWord_92 : decode cX2_readWord 92 = .ok (.istore_n 3, 1) := by decide +kernel
theorem dX2_readWord_93 : decode cX2_readWord 93 = .ok (.iload_n 3, 1) := by decide +kernel
theorem dX2_readWord_94 : decode cX2_readWord 94 = .ok (.iconst (-1), 1) := by decide +kernel
theorem dX2_readWord_95 : decode cX2_readWord 95 = .ok (.if_icmp .ne 13, 3) := by decide +kernel
theorem dX2_readWord_98 : decode cX2_readWord 98 = .ok (.aload_n 0, 1) := by decide +kernel
theorem dX2_readWord_99 : decode cX2_readWord 99 = .ok (.iconst 3, 1) := by decide +kernel
theorem dX2_readWord_100 : decode cX2_readWord 100 = .ok (.aload_n 0, 1) := by decide +kernel
theorem dX2_readWord_101 : decode cX2_readWord 101 = .ok (.getfield 27, 3) := by decide +kernel
theorem dX2_readWord_104 : decode cX2_readWord 104 = .ok (.invokevirtual 145, 3) := by decide +kernel
theorem dX2_readWord_107 : decode cX2_readWord 107 = .ok (.ireturn, 1) := by decide +kernel
theorem dX2_readWord_108 : decode cX2_readWord 108 = .ok (.aload_n 0, 1) := by decide +kernel
theorem dX2_readWord_109 : decode cX2_readWord 109 = .ok (.getfield 47, 3) := by decide +kernel
theorem dX2_readWord_112 : decode cX2_readWord 112 = .ok (.getfield 212, 3) := by decide +kernel
theorem dX2_readWord_115 : decode cX2_readWord 115 = .ok (.iload_n 1, 1) := by decide +kernel
theorem dX2_readWord_116 : decode cX2_readWord 116 = .ok (.bipush 6, 2) := by decide +kernel
theorem dX2_readWord_118 : decode cX2_readWord 118 = .ok (.imul, 1) := by decide +kernel
theorem dX2_readWord_119 : decode cX2_readWord 119 = .ok (.iload_n 2, 1) := by decide +kernel
theorem dX2_readWord_120 : decode cX2_readWord 120 = .ok (.iadd, 1) := by decide +kernel
theorem dX2_readWord_121 : decode cX2_readWord 121 = .ok (.iload_n 3, 1) := by decide +kernel
theorem dX2_readWord_122 : decode cX2_readWord 122 = .ok (.iastore, 1) := by decide +kernel
theorem dX2_readWord_123 : decode cX2_readWord 123 = .ok (.iinc 2 1, 3) := by decide +kernel
theorem dX2_readWord_126 : decode cX2_readWord 126 = .ok (.goto (-63), 3) := by decide +kernel
theorem dX2_readWord_129 : decode cX2_readWord 129 = .ok (.aload_n 0, 1) := by decide +kernel
theorem dX2_readWord_130 : decode cX2_readWord 130 = .ok (.getfield 47, 3) := by decide +kernel
theorem dX2_readWord_133 : decode cX2_readWord 133 = .ok (.getfield 215, 3) := by decide +kernel
theorem dX2_readWord_136 : decode cX2_readWord 136 = .ok (.iload_n 1, 1) := by decide +kernel
theorem dX2_readWord_137 : decode cX2_readWord 137 = .ok (.aload_n 0, 1) := by decide +kernel
theorem dX2_readWord_138 : decode cX2_readWord 138 = .ok (.getfield 30, 3) := by decide +kernel
theorem dX2_readWord_141 : decode cX2_readWord 141 = .ok (.iastore, 1) := by decide +kernel
theorem dX2_readWord_142 : decode cX2_readWord 142 = .ok (.aload_n 0, 1) := by decide +kernel
theorem dX2_readWord_143 : decode cX2_readWord 143 = .ok (.getfield 47, 3) := by decide +kernel
theorem dX2_readWord_146 : decode cX2_readWord 146 = .ok (.dup, 1) := by decide +kernel
theorem dX2_readWord_147 : decode cX2_readWord 147 = .ok (.getfield 209, 3) := by decide +kernel
theorem dX2_readWord_150 : decode cX2_readWord 150 = .ok (.iconst 1, 1) := by decide +kernel
theorem dX2_readWord_151 : decode cX2_readWord 151 = .ok (.iadd, 1) := by decide +kernel
theorem dX2_readWord_152 : decode cX2_readWord 152 = .ok (.putfield 209, 3) := by decide +kernel
theorem dX2_readWord_155 : decode cX2_readWord 155 = .ok (.iconst 1, 1) := by decide +kernel
theorem dX2_readWord_156 : decode cX2_readWord 156 = .ok (.ireturn, 1) := by decide +kernel
theorem dX2_readRun_0 : decode cX2_readRun 0 = .ok (.aload_n 0, 1) := by decide +kernel
theorem dX2_readRun_1 : decode cX2_readRun 1 = .ok (.getfield 47, 3) := by decide +kernel
theorem dX2_readRun_4 : decode cX2_readRun 4 = .ok (.getfield 218, 3) := by decide +kernel
theorem dX2_readRun_7 : decode cX2_readRun 7 = .ok (.iconst 4, 1) := by decide +kernel
theorem dX2_readRun_8 : decode cX2_readRun 8 = .ok (.if_icmp .lt 13, 3) := by decide +kernel
theorem dX2_readRun_11 : decode cX2_readRun 11 = .ok (.aload_n 0, 1) := by decide +kernel
theorem dX2_readRun_12 : decode cX2_readRun 12 = .ok (.iconst 4, 1) := by decide +kernel
theorem dX2_readRun_13 : decode cX2_readRun 13 = .ok (.aload_n 0, 1) := by decide +kernel
theorem dX2_readRun_14 : decode cX2_readRun 14 = .ok (.getfield 27, 3) := by decide +kernel
theorem dX2_readRun_17 : decode cX2_readRun 17 = .ok (.invokevirtual 145, 3) := by decide +kernel
theorem dX2_readRun_20 : decode cX2_readRun 20 = .ok (.ireturn, 1) := by decide +kernel
theorem dX2_readRun_21 : decode cX2_readRun 21 = .ok (.aload_n 0, 1) := by decide +kernel
theorem dX2_readRun_22 : decode cX2_readRun 22 = .ok (.iconst 0, 1) := by decide +kernel
theorem dX2_readRun_23 : decode cX2_readRun 23 = .ok (.aload_n 0, 1) := by decide +kernel
theorem dX2_readRun_24 : decode cX2_readRun 24 = .ok (.getfield 47, 3) := by decide +kernel
theorem dX2_readRun_27 : decode cX2_readRun 27 = .ok (.getfield 203, 3) := by decide +kernel
theorem dX2_readRun_30 : decode cX2_readRun 30 = .ok (.iconst 1, 1) := by decide +kernel
theorem dX2_readRun_31 : decode cX2_readRun 31 = .ok (.isub, 1) := by decide +kernel
theorem dX2_readRun_32 : decode cX2_readRun 32 = .ok (.invokevirtual 149, 3) := by decide +kernel
theorem dX2_readRun_35 : decode cX2_readRun 35 = .ok (.ifCond .ne 5, 3) := by decide +kernel
theorem dX2_readRun_38 : decode cX2_readRun 38 = .ok (.iconst 0, 1) := by decide +kernel
theorem dX2_readRun_39 : decode cX2_readRun 39 = .ok (.ireturn, 1) := by decide +kernel
theorem dX2_readRun_40 : decode cX2_readRun 40 = .ok (.aload_n 0, 1) := by decide +kernel
theorem dX2_readRun_41 : decode cX2_readRun 41 = .ok (.getfield 33, 3) := by decide +kernel
theorem dX2_readRun_44 : decode cX2_readRun 44 = .ok (.istore_n 1, 1) := by decide +kernel
theorem dX2_readRun_45 : decode cX2_readRun 45 = .ok (.aload_n 0, 1) := by decide +kernel
theorem dX2_readRun_46 : decode cX2_readRun 46 = .ok (.iconst 1, 1) := by decide +kernel
theorem dX2_readRun_47 : decode cX2_readRun 47 = .ok (.bipush 6, 2) := by decide +kernel
theorem dX2_readRun_49 : decode cX2_readRun 49 = .ok (.aload_n 0, 1) := by decide +kernel
theorem dX2_readRun_50 : decode cX2_readRun 50 = .ok (.getfield 47, 3) := by decide +kernel
theorem dX2_readRun_53 : decode cX2_readRun 53 = .ok (.getfield 203, 3) := by decide +kernel
theorem dX2_readRun_56 : decode cX2_readRun 56 = .ok (.iload_n 1, 1) := by decide +kernel
theorem dX2_readRun_57 : decode cX2_readRun 57 = .ok (.isub, 1) := by decide +kernel
theorem dX2_readRun_58 : decode cX2_readRun 58 = .ok (.invokestatic 221, 3) := by decide +kernel
theorem dX2_readRun_61 : decode cX2_readRun 61 = .ok (.invokevirtual 149, 3) := by decide +kernel
theorem dX2_readRun_64 : decode cX2_readRun 64 = .ok (.ifCond .ne 5, 3) := by decide +kernel
theorem dX2_readRun_67 : decode cX2_readRun 67 = .ok (.iconst 0, 1) := by decide +kernel
theorem dX2_readRun_68 : decode cX2_readRun 68 = .ok (.ireturn, 1) := by decide +kernel
theorem dX2_readRun_69 : decode cX2_readRun 69 = .ok (.aload_n 0, 1) := by decide +kernel
theorem dX2_readRun_70 : decode cX2_readRun 70 = .ok (.getfield 47, 3) := by decide +kernel
theorem dX2_readRun_73 : decode cX2_readRun 73 = .ok (.iload_n 1, 1) := by decide +kernel
theorem dX2_readRun_74 : decode cX2_readRun 74 = .ok (.aload_n 0, 1) := by decide +kernel
theorem dX2_readRun_75 : decode cX2_readRun 75 = .ok (.getfield 33, 3) := by decide +kernel
theorem dX2_readRun_78 : decode cX2_readRun 78 = .ok (.invokevirtual 227, 3) := by decide +kernel
theorem dX2_readRun_81 : decode cX2_readRun 81 = .ok (.ifCond .ne 13, 3) := by decide +kernel
theorem dX2_readRun_84 : decode cX2_readRun 84 = .ok (.aload_n 0, 1) := by decide +kernel
theorem dX2_readRun_85 : decode cX2_readRun 85 = .ok (.iconst 3, 1) := by decide +kernel
theorem dX2_readRun_86 : decode cX2_readRun 86 = .ok (.aload_n 0, 1) := by decide +kernel
theorem dX2_readRun_87 : decode cX2_readRun 87 = .ok (.getfield 27, 3) := by decide +kernel
theorem dX2_readRun_90 : decode cX2_readRun 90 = .ok (.invokevirtual 145, 3) := by decide +kernel
theorem dX2_readRun_93 : decode cX2_readRun 93 = .ok (.ireturn, 1) := by decide +kernel
theorem dX2_readRun_94 : decode cX2_readRun 94 = .ok (.aload_n 0, 1) := by decide +kernel
theorem dX2_readRun_95 : decode cX2_readRun 95 = .ok (.getfield 47, 3) := by decide +kernel
theorem dX2_readRun_98 : decode cX2_readRun 98 = .ok (.iload_n 1, 1) := by decide +kernel
theorem dX2_readRun_99 : decode cX2_readRun 99 = .ok (.aload_n 0, 1) := by decide +kernel
theorem dX2_readRun_100 : decode cX2_readRun 100 = .ok (.getfield 33, 3) := by decide +kernel
theorem dX2_readRun_103 : decode cX2_readRun 103 = .ok (.invokevirtual 230, 3) := by decide +kernel
theorem dX2_readRun_106 : decode cX2_readRun 106 = .ok (.iconst 1, 1) := by decide +kernel
theorem dX2_readRun_107 : decode cX2_readRun 107 = .ok (.ireturn, 1) := by decide +kernel
theorem dX3_init_0 : decode cX3_init 0 = .ok (.aload_n 0, 1) := by decide +kernel
theorem dX3_init_1 : decode cX3_init 1 = .ok (.invokespecial 3, 3) := by decide +kernel
theorem dX3_init_4 : decode cX3_init 4 = .ok (.aload_n 0, 1) := by decide +kernel
theorem dX3_init_5 : decode cX3_init 5 = .ok (.iconst 0, 1) := by decide +kernel
theorem dX3_init_6 : decode cX3_init 6 = .ok (.putfield 9, 3) := by decide +kernel
theorem dX3_init_9 : decode cX3_init 9 = .ok (.aload_n 0, 1) := by decide +kernel
theorem dX3_init_10 : decode cX3_init 10 = .ok (.bipush 12, 2) := by decide +kernel
theorem dX3_init_12 : decode cX3_init 12 = .ok (.newarray .int, 2) := by decide +kernel
theorem dX3_init_14 : decode cX3_init 14 = .ok (.putfield 15, 3) := by decide +kernel
theorem dX3_init_17 : decode cX3_init 17 = .ok (.aload_n 0, 1) := by decide +kernel
theorem dX3_init_18 : decode cX3_init 18 = .ok (.bipush 12, 2) := by decide +kernel
theorem dX3_init_20 : decode cX3_init 20 = .ok (.newarray .int, 2) := by decide +kernel
theorem dX3_init_22 : decode cX3_init 22 = .ok (.putfield 19, 3) := by decide +kernel
theorem dX3_init_25 : decode cX3_init 25 = .ok (.return_, 1) := by decide +kernel
theorem dX3_show_0 : decode cX3_show 0 = .ok (.aload_n 0, 1) := by decide +kernel
theorem dX3_show_1 : decode cX3_show 1 = .ok (.aload_n 1, 1) := by decide +kernel
theorem dX3_show_2 : decode cX3_show 2 = .ok (.iload_n 2, 1) := by decide +kernel
theorem dX3_show_3 : decode cX3_show 3 = .ok (.iload_n 3, 1) := by decide +kernel
theorem dX3_show_4 : decode cX3_show 4 = .ok (.invokevirtual 22, 3) := by decide +kernel
theorem dX3_show_7 : decode cX3_show 7 = .ok (.istore 4, 2) := by decide +kernel
theorem dX3_show_9 : decode cX3_show 9 = .ok (.aload_n 0, 1) := by decide +kernel
theorem dX3_show_10 : decode cX3_show 10 = .ok (.getfield 15, 3) := by decide +kernel
theorem dX3_show_13 : decode cX3_show 13 = .ok (.iconst 0, 1) := by decide +kernel
theorem dX3_show_14 : decode cX3_show 14 = .ok (.iload_n 2, 1) := by decide +kernel
theorem dX3_show_15 : decode cX3_show 15 = .ok (.iastore, 1) := by decide +kernel
theorem dX3_show_16 : decode cX3_show 16 = .ok (.aload_n 0, 1) := by decide +kernel
theorem dX3_show_17 : decode cX3_show 17 = .ok (.getfield 15, 3) := by decide +kernel
theorem dX3_show_20 : decode cX3_show 20 = .ok (.iconst 1, 1) := by decide +kernel
theorem dX3_show_21 : decode cX3_show 21 = .ok (.iload_n 3, 1) := by decide +kernel
theorem dX3_show_22 : decode cX3_show 22 = .ok (.iastore, 1) := by decide +kernel
theorem dX3_show_23 : decode cX3_show 23 = .ok (.aload_n 0, 1) := by decide +kernel
theorem dX3_show_24 : decode cX3_show 24 = .ok (.iconst 2, 1) := by decide +kernel
theorem dX3_show_25 : decode cX3_show 25 = .ok (.putfield 9, 3) := by decide +kernel
theorem dX3_show_28 : decode cX3_show 28 = .ok (.iload 4, 2) := by decide +kernel
theorem dX3_show_30 : decode cX3_show 30 = .ok (.iconst 1, 1) := by decide +kernel
theorem dX3_show_31 : decode cX3_show 31 = .ok (.isub, 1) := by decide +kernel
theorem dX3_show_32 : decode cX3_show 32 = .ok (.istore 5, 2) := by decide +kernel
theorem dX3_show_34 : decode cX3_show 34 = .ok (.iload 5, 2) := by decide +kernel
theorem dX3_show_36 : decode cX3_show 36 = .ok (.ifCond .le 67, 3) := by decide +kernel
theorem dX3_show_39 : decode cX3_show 39 = .ok (.aload_n 1, 1) := by decide +kernel
theorem dX3_show_40 : decode cX3_show 40 = .ok (.getfield 26, 3) := by decide +kernel
theorem dX3_show_43 : decode cX3_show 43 = .ok (.aload_n 0, 1) := by decide +kernel
theorem dX3_show_44 : decode cX3_show 44 = .ok (.getfield 15, 3) := by decide +kernel
theorem dX3_show_47 : decode cX3_show 47 = .ok (.aload_n 0, 1) := by decide +kernel
theorem dX3_show_48 : decode cX3_show 48 = .ok (.getfield 9, 3) := by decide +kernel
theorem dX3_show_51 : decode cX3_show 51 = .ok (.iconst 1, 1) := by decide +kernel
theorem dX3_show_52 : decode cX3_show 52 = .ok (.isub, 1) := by decide +kernel
theorem dX3_show_53 : decode cX3_show 53 = .ok (.iaload, 1) := by decide +kernel
theorem dX3_show_54 : decode cX3_show 54 = .ok (.iaload, 1) := by decide +kernel
theorem dX3_show_55 : decode cX3_show 55 = .ok (.aload_n 0, 1) := by decide +kernel
theorem dX3_show_56 : decode cX3_show 56 = .ok (.getfield 19, 3) := by decide +kernel
theorem dX3_show_59 : decode cX3_show 59 = .ok (.iload 5, 2) := by decide +kernel
theorem dX3_show_61 : decode cX3_show 61 = .ok (.iaload, 1) := by decide +kernel
theorem dX3_show_62 : decode cX3_show 62 = .ok (.iand, 1) := by decide +kernel
theorem dX3_show_63 : decode cX3_show 63 = .ok (.istore 6, 2) := by decide +kernel
theorem dX3_show_65 : decode cX3_show 65 = .ok (.iload 6, 2) := by decide +kernel
theorem dX3_show_67 : decode cX3_show 67 = .ok (.ifCond .ne 6, 3) := by decide +kernel
theorem dX3_show_70 : decode cX3_show 70 = .ok (.goto 33, 3) := by decide +kernel
theorem dX3_show_73 : decode cX3_show 73 = .ok (.aload_n 0, 1) := by decide +kernel
theorem dX3_show_74 : decode cX3_show 74 = .ok (.getfield 15, 3) := by decide +kernel
theorem dX3_show_77 : decode cX3_show 77 = .ok (.aload_n 0, 1) := by decide +kernel
theorem dX3_show_78 : decode cX3_show 78 = .ok (.getfield 9, 3) := by decide +kernel
theorem dX3_show_81 : decode cX3_show 81 = .ok (.iload 6, 2) := by decide +kernel
theorem dX3_show_83 : decode cX3_show 83 = .ok (.invokestatic 31, 3) := by decide +kernel
theorem dX3_show_86 : decode cX3_show 86 = .ok (.iastore, 1) := by decide +kernel
theorem dX3_show_87 : decode cX3_show 87 = .ok (.aload_n 0, 1) := by decide +kernel
theorem dX3_show_88 : decode cX3_show 88 = .ok (.dup, 1) := by decide +kernel
theorem dX3_show_89 : decode cX3_show 89 = .ok (.getfield 9, 3) := by decide +kernel
theorem dX3_show_92 : decode cX3_show 92 = .ok (.iconst 1, 1) := by decide +kernel
theorem dX3_show_93 : decode cX3_show 93 = .ok (.iadd, 1) := by decide +kernel
theorem dX3_show_94 : decode cX3_show 94 = .ok (.putfield 9, 3) := by decide +kernel
theorem dX3_show_97 : decode cX3_show 97 = .ok (.iinc 5 (-1), 3) := by decide +kernel
theorem dX3_show_100 : decode cX3_show 100 = .ok (.goto (-66), 3) := by decide +kernel
theorem dX3_show_103 : decode cX3_show 103 = .ok (.return_, 1) := by decide +kernel
theorem dX3_countSteps_0 : decode cX3_countSteps 0 = .ok (.iconst 1, 1) := by decide +kernel
theorem dX3_countSteps_1 : decode cX3_countSteps 1 = .ok (.iload_n 2, 1) := by decide +kernel
theorem dX3_countSteps_2 : decode cX3_countSteps 2 = .ok (.ishl, 1) := by decide +kernel
theorem dX3_countSteps_3 : decode cX3_countSteps 3 = .ok (.istore 4, 2) := by decide +kernel
theorem dX3_countSteps_5 : decode cX3_countSteps 5 = .ok (.aload_n 0, 1) := by decide +kernel
theorem dX3_countSteps_6 : decode cX3_countSteps 6 = .ok (.getfield 19, 3) := by decide +kernel
theorem dX3_countSteps_9 : decode cX3_countSteps 9 = .ok (.iconst 0, 1) := by decide +kernel
theorem dX3_countSteps_10 : decode cX3_countSteps 10 = .ok (.iload 4, 2) := by decide +kernel
theorem dX3_countSteps_12 : decode cX3_countSteps 12 = .ok (.iastore, 1) := by decide +kernel
theorem dX3_countSteps_13 : decode cX3_countSteps 13 = .ok (.iconst 0, 1) := by decide +kernel
theorem dX3_countSteps_14 : decode cX3_countSteps 14 = .ok (.istore 5, 2) := by decide +kernel
theorem dX3_countSteps_16 : decode cX3_countSteps 16 = .ok (.iconst 1, 1) := by decide +kernel
theorem dX3_countSteps_17 : decode cX3_countSteps 17 = .ok (.istore 6, 2) := by decide +kernel
theorem dX3_countSteps_19 : decode cX3_countSteps 19 = .ok (.iload 6, 2) := by decide +kernel
theorem dX3_countSteps_21 : decode cX3_countSteps 21 = .ok (.bipush 12, 2) := by decide +kernel
theorem dX3_countSteps_23 : decode cX3_countSteps 23 = .ok (.if_icmp .ge 104, 3) := by decide +kernel
theorem dX3_countSteps_26 : decode cX3_countSteps 26 = .ok (.iload 4, 2) := by decide +kernel
theorem dX3_countSteps_28 : decode cX3_countSteps 28 = .ok (.iload_n 3, 1) := by decide +kernel
theorem dX3_countSteps_29 : decode cX3_countSteps 29 = .ok (.ishr, 1) := by decide +kernel
theorem dX3_countSteps_30 : decode cX3_countSteps 30 = .ok (.iconst 1, 1) := by decide +kernel
theorem dX3_countSteps_31 : decode cX3_countSteps 31 = .ok (.iand, 1) := by decide +kernel
theorem dX3_countSteps_32 : decode cX3_countSteps 32 = .ok (.ifCond .ne 95, 3) := by decide +kernel
theorem dX3_countSteps_35 : decode cX3_countSteps 35 = .ok (.aload_n 0, 1) := by decide +kernel
theorem dX3_countSteps_36 : decode cX3_countSteps 36 = .ok (.getfield 19, 3) := by decide +kernel
theorem dX3_countSteps_39 : decode cX3_countSteps 39 = .ok (.iload 6, 2) := by decide +kernel
theorem dX3_countSteps_41 : decode cX3_countSteps 41 = .ok (.iconst 0, 1) := by decide +kernel
theorem dX3_countSteps_42 : decode cX3_countSteps 42 = .ok (.iastore, 1) := by decide +kernel
theorem dX3_countSteps_43 : decode cX3_countSteps 43 = .ok (.iconst 0, 1) := by decide +kernel
theorem dX3_countSteps_44 : decode cX3_countSteps 44 = .ok (.istore 7, 2) := by decide +kernel
theorem dX3_countSteps_46 : decode cX3_countSteps 46 = .ok (.iload 7, 2) := by decide +kernel
theorem dX3_countSteps_48 : decode cX3_countSteps 48 = .ok (.aload_n 1, 1) := by decide +kernel
theorem dX3_countSteps_49 : decode cX3_countSteps 49 = .ok (.getfield 37, 3) := by decide +kernel
theorem dX3_countSteps_52 : decode cX3_countSteps 52 = .ok (.if_icmp .ge 53, 3) := by decide +kernel
theorem dX3_countSteps_55 : decode cX3_countSteps 55 = .ok (.iload 4, 2) := by decide +kernel
theorem dX3_countSteps_57 : decode cX3_countSteps 57 = .ok (.iload 7, 2) := by decide +kernel
theorem dX3_countSteps_59 : decode cX3_countSteps 59 = .ok (.ishr, 1) := by decide +kernel
theorem dX3_countSteps_60 : decode cX3_countSteps 60 = .ok (.iconst 1, 1) := by decide +kernel
theorem dX3_countSteps_61 : decode cX3_countSteps 61 = .ok (.iand, 1) := by decide +kernel
theorem dX3_countSteps_62 : decode cX3_countSteps 62 = .ok (.ifCond .ne 37, 3) := by decide +kernel
theorem dX3_countSteps_65 : decode cX3_countSteps 65 = .ok (.aload_n 1, 1) := by decide +kernel
theorem dX3_countSteps_66 : decode cX3_countSteps 66 = .ok (.getfield 26, 3) := by decide +kernel
theorem dX3_countSteps_69 : decode cX3_countSteps 69 = .ok (.iload 7, 2) := by decide +kernel
theorem dX3_countSteps_71 : decode cX3_countSteps 71 = .ok (.iaload, 1) := by decide +kernel
theorem dX3_countSteps_72 : decode cX3_countSteps 72 = .ok (.aload_n 0, 1) := by decide +kernel
theorem dX3_countSteps_73 : decode cX3_countSteps 73 = .ok (.getfield 19, 3) := by decide +kernel
theorem dX3_countSteps_76 : decode cX3_countSteps 76 = .ok (.iload 6, 2) := by decide +kernel
theorem dX3_countSteps_78 : decode cX3_countSteps 78 = .ok (.iconst 1, 1) := by decide +kernel
theorem dX3_countSteps_79 : decode cX3_countSteps 79 = .ok (.isub, 1) := by decide +kernel
theorem dX3_countSteps_80 : decode cX3_countSteps 80 = .ok (.iaload, 1) := by decide +kernel
theorem dX3_countSteps_81 : decode cX3_countSteps 81 = .ok (.iand, 1) := by decide +kernel
theorem dX3_countSteps_82 : decode cX3_countSteps 82 = .ok (.ifCond .eq 17, 3) := by decide +kernel
theorem dX3_countSteps_85 : decode cX3_countSteps 85 = .ok (.aload_n 0, 1) := by decide +kernel
theorem dX3_countSteps_86 : decode cX3_countSteps 86 = .ok (.getfield 19, 3) := by decide +kernel
theorem dX3_countSteps_89 : decode cX3_countSteps 89 = .ok (.iload 6, 2) := by decide +kernel
theorem dX3_countSteps_91 : decode cX3_countSteps 91 = .ok (.dup2, 1) := by decide +kernel
theorem dX3_countSteps_92 : decode cX3_countSteps 92 = .ok (.iaload, 1) := by decide +kernel
theorem dX3_countSteps_93 : decode cX3_countSteps 93 = .ok (.iconst 1, 1) := by decide +kernel
theorem dX3_countSteps_94 : decode cX3_countSteps 94 = .ok (.iload 7, 2) := by decide +kernel
theorem dX3_countSteps_96 : decode cX3_countSteps 96 = .ok (.ishl, 1) := by decide +kernel
theorem dX3_countSteps_97 : decode cX3_countSteps 97 = .ok (.ior, 1) := by decide +kernel
theorem dX3_countSteps_98 : decode cX3_countSteps 98 = .ok (.iastore, 1) := by decide +kernel
theorem dX3_countSteps_99 : decode cX3_countSteps 99 = .ok (.iinc 7 1, 3) := by decide +kernel
theorem dX3_countSteps_102 : decode cX3_countSteps 102 = .ok (.goto (-56), 3) := by decide +kernel
theorem dX3_countSteps_105 : decode cX3_countSteps 105 = .ok (.iload 4, 2) := by decide +kernel
theorem dX3_countSteps_107 : decode cX3_countSteps 107 = .ok (.aload_n 0, 1) := by decide +kernel
theorem dX3_countSteps_108 : decode cX3_countSteps 108 = .ok (.getfield 19, 3) := by decide +kernel
theorem dX3_countSteps_111 : decode cX3_countSteps 111 = .ok (.iload 6, 2) := by decide +kernel
theorem dX3_countSteps_113 : decode cX3_countSteps 113 = .ok (.iaload, 1) := by decide +kernel
theorem dX3_countSteps_114 : decode cX3_countSteps 114 = .ok (.ior, 1) := by decide +kernel
theorem dX3_countSteps_115 : decode cX3_countSteps 115 = .ok (.istore 4, 2) := by decide +kernel
theorem dX3_countSteps_117 : decode cX3_countSteps 117 = .ok (.iload 6, 2) := by decide +kernel
theorem dX3_countSteps_119 : decode cX3_countSteps 119 = .ok (.istore 5, 2) := by decide +kernel
theorem dX3_countSteps_121 : decode cX3_countSteps 121 = .ok (.iinc 6 1, 3) := by decide +kernel
theorem dX3_countSteps_124 : decode cX3_countSteps 124 = .ok (.goto (-105), 3) := by decide +kernel
theorem dX3_countSteps_127 : decode cX3_countSteps 127 = .ok (.iload 5, 2) := by decide +kernel
theorem dX3_countSteps_129 : decode cX3_countSteps 129 = .ok (.ireturn, 1) := by decide +kernel
theorem dX4_init_0 : decode cX4_init 0 = .ok (.aload_n 0, 1) := by decide +kernel
theorem dX4_init_1 : decode cX4_init 1 = .ok (.invokespecial 3, 3) := by decide +kernel
theorem dX4_init_4 : decode cX4_init 4 = .ok (.aload_n 0, 1) := by decide +kernel
theorem dX4_init_5 : decode cX4_init 5 = .ok (.iconst 0, 1) := by decide +kernel
theorem dX4_init_6 : decode cX4_init 6 = .ok (.putfield 9, 3) := by decide +kernel
theorem dX4_init_9 : decode cX4_init 9 = .ok (.aload_n 0, 1) := by decide +kernel
theorem dX4_init_10 : decode cX4_init 10 = .ok (.iconst 0, 1) := by decide +kernel
theorem dX4_init_11 : decode cX4_init 11 = .ok (.putfield 15, 3) := by decide +kernel
theorem dX4_init_14 : decode cX4_init 14 = .ok (.aload_n 0, 1) := by decide +kernel
theorem dX4_init_15 : decode cX4_init 15 = .ok (.iconst 0, 1) := by decide +kernel
theorem dX4_init_16 : decode cX4_init 16 = .ok (.putfield 19, 3) := by decide +kernel
theorem dX4_init_19 : decode cX4_init 19 = .ok (.aload_n 0, 1) := by decide +kernel
theorem dX4_init_20 : decode cX4_init 20 = .ok (.bipush 12, 2) := by decide +kernel
theorem dX4_init_22 : decode cX4_init 22 = .ok (.newarray .int, 2) := by decide +kernel
theorem dX4_init_24 : decode cX4_init 24 = .ok (.putfield 22, 3) := by decide +kernel
theorem dX4_init_27 : decode cX4_init 27 = .ok (.return_, 1) := by decide +kernel
theorem dX4_start_0 : decode cX4_start 0 = .ok (.aload_n 0, 1) := by decide +kernel
theorem dX4_start_1 : decode cX4_start 1 = .ok (.iconst 1, 1) := by decide +kernel
theorem dX4_start_2 : decode cX4_start 2 = .ok (.putfield 9, 3) := by decide +kernel
theorem dX4_start_5 : decode cX4_start 5 = .ok (.aload_n 0, 1) := by decide +kernel
theorem dX4_start_6 : decode cX4_start 6 = .ok (.iload_n 1, 1) := by decide +kernel
theorem dX4_start_7 : decode cX4_start 7 = .ok (.putfield 15, 3) := by decide +kernel
theorem dX4_start_10 : decode cX4_start 10 = .ok (.aload_n 0, 1) := by decide +kernel
theorem dX4_start_11 : decode cX4_start 11 = .ok (.iload_n 2, 1) := by decide +kernel
theorem dX4_start_12 : decode cX4_start 12 = .ok (.putfield 19, 3) := by decide +kernel
theorem dX4_start_15 : decode cX4_start 15 = .ok (.iconst 0, 1) := by decide +kernel
theorem dX4_start_16 : decode cX4_start 16 = .ok (.istore_n 3, 1) := by decide +kernel
theorem dX4_start_17 : decode cX4_start 17 = .ok (.iload_n 3, 1) := by decide +kernel
theorem dX4_start_18 : decode cX4_start 18 = .ok (.bipush 12, 2) := by decide +kernel
theorem dX4_start_20 : decode cX4_start 20 = .ok (.if_icmp .ge 16, 3) := by decide +kernel
theorem dX4_start_23 : decode cX4_start 23 = .ok (.aload_n 0, 1) := by decide +kernel
theorem dX4_start_24 : decode cX4_start 24 = .ok (.getfield 22, 3) := by decide +kernel
theorem dX4_start_27 : decode cX4_start 27 = .ok (.iload_n 3, 1) := by decide +kernel
theorem dX4_start_28 : decode cX4_start 28 = .ok (.iconst 0, 1) := by decide +kernel
theorem dX4_start_29 : decode cX4_start 29 = .ok (.iastore, 1) := by decide +kernel
theorem dX4_start_30 : decode cX4_start 30 = .ok (.iinc 3 1, 3) := by decide +kernel
theorem dX4_start_33 : decode cX4_start 33 = .ok (.goto (-16), 3) := by decide +kernel
theorem dX4_start_36 : decode cX4_start 36 = .ok (.return_, 1) := by decide +kernel
theorem dX4_cut_0 : decode cX4_cut 0 = .ok (.aload_n 0, 1) := by decide +kernel
theorem dX4_cut_1 : decode cX4_cut 1 = .ok (.getfield 15, 3) := by decide +kernel
theorem dX4_cut_4 : decode cX4_cut 4 = .ok (.ifCond .ne 8, 3) := by decide +kernel
theorem dX4_cut_7 : decode cX4_cut 7 = .ok (.iload_n 1, 1) := by decide +kernel
theorem dX4_cut_8 : decode cX4_cut 8 = .ok (.i2s, 1) := by decide +kernel
theorem dX4_cut_9 : decode cX4_cut 9 = .ok (.goto 4, 3) := by decide +kernel
theorem dX4_cut_12 : decode cX4_cut 12 = .ok (.iload_n 1, 1) := by decide +kernel
theorem dX4_cut_13 : decode cX4_cut 13 = .ok (.ireturn, 1) := by decide +kernel
theorem dX4_hasPart_0 : decode cX4_hasPart 0 = .ok (.iload_n 2, 1) := by decide +kernel
theorem dX4_hasPart_1 : decode cX4_hasPart 1 = .ok (.ifCond .lt 29, 3) := by decide +kernel
theorem dX4_hasPart_4 : decode cX4_hasPart 4 = .ok (.iload_n 2, 1) := by decide +kernel
theorem dX4_hasPart_5 : decode cX4_hasPart 5 = .ok (.aload_n 0, 1) := by decide +kernel
theorem dX4_hasPart_6 : decode cX4_hasPart 6 = .ok (.getfield 19, 3) := by decide +kernel
theorem dX4_hasPart_9 : decode cX4_hasPart 9 = .ok (.if_icmp .gt 21, 3) := by decide +kernel
theorem dX4_hasPart_12 : decode cX4_hasPart 12 = .ok (.iload_n 1, 1) := by decide +kernel
theorem dX4_hasPart_13 : decode cX4_hasPart 13 = .ok (.ifCond .lt 17, 3) := by decide +kernel
theorem dX4_hasPart_16 : decode cX4_hasPart 16 = .ok (.iload_n 1, 1) := by decide +kernel
theorem dX4_hasPart_17 : decode cX4_hasPart 17 = .ok (.aload_n 0, 1) := by decide +kernel
theorem dX4_hasPart_18 : decode cX4_hasPart 18 = .ok (.getfield 19, 3) := by decide +kernel
theorem dX4_hasPart_21 : decode cX4_hasPart 21 = .ok (.iload_n 2, 1) := by decide +kernel
theorem dX4_hasPart_22 : decode cX4_hasPart 22 = .ok (.isub, 1) := by decide +kernel
theorem dX4_hasPart_23 : decode cX4_hasPart 23 = .ok (.if_icmp .gt 7, 3) := by decide +kernel
theorem dX4_hasPart_26 : decode cX4_hasPart 26 = .ok (.iconst 1, 1) := by decide +kernel
theorem dX4_hasPart_27 : decode cX4_hasPart 27 = .ok (.goto 4, 3) := by decide +kernel
theorem dX4_hasPart_30 : decode cX4_hasPart 30 = .ok (.iconst 0, 1) := by decide +kernel
theorem dX4_hasPart_31 : decode cX4_hasPart 31 = .ok (.ireturn, 1) := by decide +kernel
theorem dX5_init_0 : decode cX5_init 0 = .ok (.aload_n 0, 1) := by decide +kernel
theorem dX5_init_1 : decode cX5_init 1 = .ok (.invokespecial 3, 3) := by decide +kernel
theorem dX5_init_4 : decode cX5_init 4 = .ok (.aload_n 0, 1) := by decide +kernel
theorem dX5_init_5 : decode cX5_init 5 = .ok (.iconst 0, 1) := by decide +kernel
theorem dX5_init_6 : decode cX5_init 6 = .ok (.putfield 9, 3) := by decide +kernel
theorem dX5_init_9 : decode cX5_init 9 = .ok (.aload_n 0, 1) := by decide +kernel
theorem dX5_init_10 : decode cX5_init 10 = .ok (.iconst 0, 1) := by decide +kernel
theorem dX5_init_11 : decode cX5_init 11 = .ok (.putfield 15, 3) := by decide +kernel
theorem dX5_init_14 : decode cX5_init 14 = .ok (.aload_n 0, 1) := by decide +kernel
theorem dX5_init_15 : decode cX5_init 15 = .ok (.iconst 0, 1) := by decide +kernel
theorem dX5_init_16 : decode cX5_init 16 = .ok (.putfield 18, 3) := by decide +kernel
theorem dX5_init_19 : decode cX5_init 19 = .ok (.aload_n 0, 1) := by decide +kernel
theorem dX5_init_20 : decode cX5_init 20 = .ok (.iconst 0, 1) := by decide +kernel
theorem dX5_init_21 : decode cX5_init 21 = .ok (.putfield 21, 3) := by decide +kernel
theorem dX5_init_24 : decode cX5_init 24 = .ok (.aload_n 0, 1) := by decide +kernel
theorem dX5_init_25 : decode cX5_init 25 = .ok (.bipush 10, 2) := by decide +kernel
theorem dX5_init_27 : decode cX5_init 27 = .ok (.newarray .int, 2) := by decide +kernel
theorem dX5_init_29 : decode cX5_init 29 = .ok (.putfield 24, 3) := by decide +kernel
theorem dX5_init_32 : decode cX5_init 32 = .ok (.aload_n 0, 1) := by decide +kernel
theorem dX5_init_33 : decode cX5_init 33 = .ok (.bipush 10, 2) := by decide +kernel
theorem dX5_init_35 : decode cX5_init 35 = .ok (.newarray .int, 2) := by decide +kernel
theorem dX5_init_37 : decode cX5_init 37 = .ok (.putfield 28, 3) := by decide +kernel
theorem dX5_init_40 : decode cX5_init 40 = .ok (.aload_n 0, 1) := by decide +kernel
theorem dX5_init_41 : decode cX5_init 41 = .ok (.bipush 10, 2) := by decide +kernel
theorem dX5_init_43 : decode cX5_init 43 = .ok (.newarray .int, 2) := by decide +kernel
theorem dX5_init_45 : decode cX5_init 45 = .ok (.putfield 31, 3) := by decide +kernel
theorem dX5_init_48 : decode cX5_init 48 = .ok (.aload_n 0, 1) := by decide +kernel
theorem dX5_init_49 : decode cX5_init 49 = .ok (.bipush 8, 2) := by decide +kernel
theorem dX5_init_51 : decode cX5_init 51 = .ok (.newarray .int, 2) := by decide +kernel
theorem dX5_init_53 : decode cX5_init 53 = .ok (.putfield 34, 3) := by decide +kernel
theorem dX5_init_56 : decode cX5_init 56 = .ok (.aload_n 0, 1) := by decide +kernel
theorem dX5_init_57 : decode cX5_init 57 = .ok (.bipush 8, 2) := by decide +kernel
theorem dX5_init_59 : decode cX5_init 59 = .ok (.newarray .int, 2) := by decide +kernel
theorem dX5_init_61 : decode cX5_init 61 = .ok (.putfield 37, 3) := by decide +kernel
theorem dX5_init_64 : decode cX5_init 64 = .ok (.aload_n 0, 1) := by decide +kernel
theorem dX5_init_65 : decode cX5_init 65 = .ok (.bipush 8, 2) := by decide +kernel
theorem dX5_init_67 : decode cX5_init 67 = .ok (.newarray .int, 2) := by decide +kernel
theorem dX5_init_69 : decode cX5_init 69 = .ok (.putfield 40, 3) := by decide +kernel
theorem dX5_init_72 : decode cX5_init 72 = .ok (.aload_n 0, 1) := by decide +kernel
theorem dX5_init_73 : decode cX5_init 73 = .ok (.bipush 12, 2) := by decide +kernel
theorem dX5_init_75 : decode cX5_init 75 = .ok (.newarray .int, 2) := by decide +kernel
theorem dX5_init_77 : decode cX5_init 77 = .ok (.putfield 43, 3) := by decide +kernel
theorem dX5_init_80 : decode cX5_init 80 = .ok (.aload_n 0, 1) := by decide +kernel
theorem dX5_init_81 : decode cX5_init 81 = .ok (.bipush 72, 2) := by decide +kernel
theorem dX5_init_83 : decode cX5_init 83 = .ok (.newarray .int, 2) := by decide +kernel
theorem dX5_init_85 : decode cX5_init 85 = .ok (.putfield 46, 3) := by decide +kernel
theorem dX5_init_88 : decode cX5_init 88 = .ok (.aload_n 0, 1) := by decide +kernel
theorem dX5_init_89 : decode cX5_init 89 = .ok (.iconst 4, 1) := by decide +kernel
theorem dX5_init_90 : decode cX5_init 90 = .ok (.newarray .int, 2) := by decide +kernel
theorem dX5_init_92 : decode cX5_init 92 = .ok (.putfield 49, 3) := by decide +kernel
theorem dX5_init_95 : decode cX5_init 95 = .ok (.aload_n 0, 1) := by decide +kernel
theorem dX5_init_96 : decode cX5_init 96 = .ok (.iconst 4, 1) := by decide +kernel
theorem dX5_init_97 : decode cX5_init 97 = .ok (.newarray .int, 2) := by decide +kernel
theorem dX5_init_99 : decode cX5_init 99 = .ok (.putfield 52, 3) := by decide +kernel
theorem dX5_init_102 : decode cX5_init 102 = .ok (.return_, 1) := by decide +kernel
theorem dX5_clear_0 : decode cX5_clear 0 = .ok (.aload_n 0, 1) := by decide +kernel
theorem dX5_clear_1 : decode cX5_clear 1 = .ok (.iconst 0, 1) := by decide +kernel
theorem dX5_clear_2 : decode cX5_clear 2 = .ok (.putfield 9, 3) := by decide +kernel
theorem dX5_clear_5 : decode cX5_clear 5 = .ok (.aload_n 0, 1) := by decide +kernel
theorem dX5_clear_6 : decode cX5_clear 6 = .ok (.iconst 0, 1) := by decide +kernel
theorem dX5_clear_7 : decode cX5_clear 7 = .ok (.putfield 15, 3) := by decide +kernel
theorem dX5_clear_10 : decode cX5_clear 10 = .ok (.aload_n 0, 1) := by decide +kernel
theorem dX5_clear_11 : decode cX5_clear 11 = .ok (.iconst 0, 1) := by decide +kernel
theorem dX5_clear_12 : decode cX5_clear 12 = .ok (.putfield 18, 3) := by decide +kernel
theorem dX5_clear_15 : decode cX5_clear 15 = .ok (.aload_n 0, 1) := by decide +kernel
theorem dX5_clear_16 : decode cX5_clear 16 = .ok (.iconst 0, 1) := by decide +kernel
theorem dX5_clear_17 : decode cX5_clear 17 = .ok (.putfield 21, 3) := by decide +kernel
theorem dX5_clear_20 : decode cX5_clear 20 = .ok (.return_, 1) := by decide +kernel
theorem dX5_hasLetter_0 : decode cX5_hasLetter 0 = .ok (.iload_n 1, 1) := by decide +kernel
theorem dX5_hasLetter_1 : decode cX5_hasLetter 1 = .ok (.ifCond .lt 15, 3) := by decide +kernel
theorem dX5_hasLetter_4 : decode cX5_hasLetter 4 = .ok (.iload_n 1, 1) := by decide +kernel
theorem dX5_hasLetter_5 : decode cX5_hasLetter 5 = .ok (.aload_n 0, 1) := by decide +kernel
theorem dX5_hasLetter_6 : decode cX5_hasLetter 6 = .ok (.getfield 9, 3) := by decide +kernel
theorem dX5_hasLetter_9 : decode cX5_hasLetter 9 = .ok (.if_icmp .ge 7, 3) := by decide +kernel
theorem dX5_hasLetter_12 : decode cX5_hasLetter 12 = .ok (.iconst 1, 1) := by decide +kernel
theorem dX5_hasLetter_13 : decode cX5_hasLetter 13 = .ok (.goto 4, 3) := by decide +kernel
theorem dX5_hasLetter_16 : decode cX5_hasLetter 16 = .ok (.iconst 0, 1) := by decide +kernel
theorem dX5_hasLetter_17 : decode cX5_hasLetter 17 = .ok (.ireturn, 1) := by decide +kernel
theorem dX5_hasPlace_0 : decode cX5_hasPlace 0 = .ok (.iload_n 1, 1) := by decide +kernel
theorem dX5_hasPlace_1 : decode cX5_hasPlace 1 = .ok (.ifCond .lt 15, 3) := by decide +kernel
theorem dX5_hasPlace_4 : decode cX5_hasPlace 4 = .ok (.iload_n 1, 1) := by decide +kernel
theorem dX5_hasPlace_5 : decode cX5_hasPlace 5 = .ok (.aload_n 0, 1) := by decide +kernel
theorem dX5_hasPlace_6 : decode cX5_hasPlace 6 = .ok (.getfield 15, 3) := by decide +kernel
theorem dX5_hasPlace_9 : decode cX5_hasPlace 9 = .ok (.if_icmp .ge 7, 3) := by decide +kernel
theorem dX5_hasPlace_12 : decode cX5_hasPlace 12 = .ok (.iconst 1, 1) := by decide +kernel
theorem dX5_hasPlace_13 : decode cX5_hasPlace 13 = .ok (.goto 4, 3) := by decide +kernel
theorem dX5_hasPlace_16 : decode cX5_hasPlace 16 = .ok (.iconst 0, 1) := by decide +kernel
theorem dX5_hasPlace_17 : decode cX5_hasPlace 17 = .ok (.ireturn, 1) := by decide +kernel
theorem dX5_hasWord_0 : decode cX5_hasWord 0 = .ok (.iload_n 1, 1) := by decide +kernel
theorem dX5_hasWord_1 : decode cX5_hasWord 1 = .ok (.ifCond .lt 15, 3) := by decide +kernel
theorem dX5_hasWord_4 : decode cX5_hasWord 4 = .ok (.iload_n 1, 1) := by decide +kernel
theorem dX5_hasWord_5 : decode cX5_hasWord 5 = .ok (.aload_n 0, 1) := by decide +kernel
theorem dX5_hasWord_6 : decode cX5_hasWord 6 = .ok (.getfield 18, 3) := by decide +kernel
theorem dX5_hasWord_9 : decode cX5_hasWord 9 = .ok (.if_icmp .ge 7, 3) := by decide +kernel
theorem dX5_hasWord_12 : decode cX5_hasWord 12 = .ok (.iconst 1, 1) := by decide +kernel
theorem dX5_hasWord_13 : decode cX5_hasWord 13 = .ok (.goto 4, 3) := by decide +kernel
theorem dX5_hasWord_16 : decode cX5_hasWord 16 = .ok (.iconst 0, 1) := by decide +kernel
theorem dX5_hasWord_17 : decode cX5_hasWord 17 = .ok (.ireturn, 1) := by decide +kernel
theorem dX5_hasRun_0 : decode cX5_hasRun 0 = .ok (.iload_n 1, 1) := by decide +kernel
theorem dX5_hasRun_1 : decode cX5_hasRun 1 = .ok (.ifCond .lt 15, 3) := by decide +kernel
theorem dX5_hasRun_4 : decode cX5_hasRun 4 = .ok (.iload_n 1, 1) := by decide +kernel
theorem dX5_hasRun_5 : decode cX5_hasRun 5 = .ok (.aload_n 0, 1) := by decide +kernel
theorem dX5_hasRun_6 : decode cX5_hasRun 6 = .ok (.getfield 21, 3) := by decide +kernel
theorem dX5_hasRun_9 : decode cX5_hasRun 9 = .ok (.if_icmp .ge 7, 3) := by decide +kernel
theorem dX5_hasRun_12 : decode cX5_hasRun 12 = .ok (.iconst 1, 1) := by decide +kernel
theorem dX5_hasRun_13 : decode cX5_hasRun 13 = .ok (.goto 4, 3) := by decide +kernel
theorem dX5_hasRun_16 : decode cX5_hasRun 16 = .ok (.iconst 0, 1) := by decide +kernel
theorem dX5_hasRun_17 : decode cX5_hasRun 17 = .ok (.ireturn, 1) := by decide +kernel
theorem dX5_letterNamed_0 : decode cX5_letterNamed 0 = .ok (.iconst 0, 1) := by decide +kernel
theorem dX5_letterNamed_1 : decode cX5_letterNamed 1 = .ok (.istore_n 2, 1) := by decide +kernel
theorem dX5_letterNamed_2 : decode cX5_letterNamed 2 = .ok (.iload_n 2, 1) := by decide +kernel
theorem dX5_letterNamed_3 : decode cX5_letterNamed 3 = .ok (.aload_n 0, 1) := by decide +kernel
theorem dX5_letterNamed_4 : decode cX5_letterNamed 4 = .ok (.getfield 9, 3) := by decide +kernel
theorem dX5_letterNamed_7 : decode cX5_letterNamed 7 = .ok (.if_icmp .ge 21, 3) := by decide +kernel
theorem dX5_letterNamed_10 : decode cX5_letterNamed 10 = .ok (.aload_n 0, 1) := by decide +kernel
theorem dX5_letterNamed_11 : decode cX5_letterNamed 11 = .ok (.getfield 24, 3) := by decide +kernel
theorem dX5_letterNamed_14 : decode cX5_letterNamed 14 = .ok (.iload_n 2, 1) := by decide +kernel
theorem dX5_letterNamed_15 : decode cX5_letterNamed 15 = .ok (.iaload, 1) := by decide +kernel
theorem dX5_letterNamed_16 : decode cX5_letterNamed 16 = .ok (.iload_n 1, 1) := by decide +kernel
theorem dX5_letterNamed_17 : decode cX5_letterNamed 17 = .ok (.if_icmp .ne 5, 3) := by decide +kernel
theorem dX5_letterNamed_20 : decode cX5_letterNamed 20 = .ok (.iload_n 2, 1) := by decide +kernel
theorem dX5_letterNamed_21 : decode cX5_letterNamed 21 = .ok (.ireturn, 1) := by decide +kernel
theorem dX5_letterNamed_22 : decode cX5_letterNamed 22 = .ok (.iinc 2 1, 3) := by decide +kernel
theorem dX5_letterNamed_25 : decode cX5_letterNamed 25 = .ok (.goto (-23), 3) := by decide +kernel
theorem dX5_letterNamed_28 : decode cX5_letterNamed 28 = .ok (.iconst (-1), 1) := by decide +kernel
theorem dX5_letterNamed_29 : decode cX5_letterNamed 29 = .ok (.ireturn, 1) := by decide +kernel
theorem dX5_addLetter_0 : decode cX5_addLetter 0 = .ok (.aload_n 0, 1) := by decide +kernel
theorem dX5_addLetter_1 : decode cX5_addLetter 1 = .ok (.getfield 24, 3) := by decide +kernel
theorem dX5_addLetter_4 : decode cX5_addLetter 4 = .ok (.aload_n 0, 1) := by decide +kernel
theorem dX5_addLetter_5 : decode cX5_addLetter 5 = .ok (.getfield 9, 3) := by decide +kernel
theorem dX5_addLetter_8 : decode cX5_addLetter 8 = .ok (.iload_n 1, 1) := by decide +kernel
theorem dX5_addLetter_9 : decode cX5_addLetter 9 = .ok (.iastore, 1) := by decide +kernel
theorem dX5_addLetter_10 : decode cX5_addLetter 10 = .ok (.aload_n 0, 1) := by decide +kernel
theorem dX5_addLetter_11 : decode cX5_addLetter 11 = .ok (.getfield 28, 3) := by decide +kernel
theorem dX5_addLetter_14 : decode cX5_addLetter 14 = .ok (.aload_n 0, 1) := by decide +kernel
theorem dX5_addLetter_15 : decode cX5_addLetter 15 = .ok (.getfield 9, 3) := by decide +kernel
theorem dX5_addLetter_18 : decode cX5_addLetter 18 = .ok (.iload_n 2, 1) := by decide +kernel
theorem dX5_addLetter_19 : decode cX5_addLetter 19 = .ok (.iastore, 1) := by decide +kernel
theorem dX5_addLetter_20 : decode cX5_addLetter 20 = .ok (.aload_n 0, 1) := by decide +kernel
theorem dX5_addLetter_21 : decode cX5_addLetter 21 = .ok (.getfield 31, 3) := by decide +kernel
theorem dX5_addLetter_24 : decode cX5_addLetter 24 = .ok (.aload_n 0, 1) := by decide +kernel
theorem dX5_addLetter_25 : decode cX5_addLetter 25 = .ok (.getfield 9, 3) := by decide +kernel
theorem dX5_addLetter_28 : decode cX5_addLetter 28 = .ok (.iload_n 3, 1) := by decide +kernel
theorem dX5_addLetter_29 : decode cX5_addLetter 29 = .ok (.iastore, 1) := by decide +kernel
theorem dX5_addLetter_30 : decode cX5_addLetter 30 = .ok (.aload_n 0, 1) := by decide +kernel
theorem dX5_addLetter_31 : decode cX5_addLetter 31 = .ok (.dup, 1) := by decide +kernel
theorem dX5_addLetter_32 : decode cX5_addLetter 32 = .ok (.getfield 9, 3) := by decide +kernel
theorem dX5_addLetter_35 : decode cX5_addLetter 35 = .ok (.iconst 1, 1) := by decide +kernel
theorem dX5_addLetter_36 : decode cX5_addLetter 36 = .ok (.iadd, 1) := by decide +kernel
theorem dX5_addLetter_37 : decode cX5_addLetter 37 = .ok (.putfield 9, 3) := by decide +kernel
theorem dX5_addLetter_40 : decode cX5_addLetter 40 = .ok (.return_, 1) := by decide +kernel
theorem dX5_addPlace_0 : decode cX5_addPlace 0 = .ok (.aload_n 0, 1) := by decide +kernel
theorem dX5_addPlace_1 : decode cX5_addPlace 1 = .ok (.getfield 34, 3) := by decide +kernel
theorem dX5_addPlace_4 : decode cX5_addPlace 4 = .ok (.aload_n 0, 1) := by decide +kernel
theorem dX5_addPlace_5 : decode cX5_addPlace 5 = .ok (.getfield 15, 3) := by decide +kernel
theorem dX5_addPlace_8 : decode cX5_addPlace 8 = .ok (.iload_n 1, 1) := by decide +kernel
theorem dX5_addPlace_9 : decode cX5_addPlace 9 = .ok (.iastore, 1) := by decide +kernel
theorem dX5_addPlace_10 : decode cX5_addPlace 10 = .ok (.aload_n 0, 1) := by decide +kernel
theorem dX5_addPlace_11 : decode cX5_addPlace 11 = .ok (.getfield 37, 3) := by decide +kernel
theorem dX5_addPlace_14 : decode cX5_addPlace 14 = .ok (.aload_n 0, 1) := by decide +kernel
theorem dX5_addPlace_15 : decode cX5_addPlace 15 = .ok (.getfield 15, 3) := by decide +kernel
theorem dX5_addPlace_18 : decode cX5_addPlace 18 = .ok (.iload_n 2, 1) := by decide +kernel
theorem dX5_addPlace_19 : decode cX5_addPlace 19 = .ok (.iastore, 1) := by decide +kernel
theorem dX5_addPlace_20 : decode cX5_addPlace 20 = .ok (.aload_n 0, 1) := by decide +kernel
theorem dX5_addPlace_21 : decode cX5_addPlace 21 = .ok (.getfield 40, 3) := by decide +kernel
theorem dX5_addPlace_24 : decode cX5_addPlace 24 = .ok (.aload_n 0, 1) := by decide +kernel
theorem dX5_addPlace_25 : decode cX5_addPlace 25 = .ok (.getfield 15, 3) := by decide +kernel
theorem dX5_addPlace_28 : decode cX5_addPlace 28 = .ok (.iconst (-1), 1) := by decide +kernel
theorem dX5_addPlace_29 : decode cX5_addPlace 29 = .ok (.iastore, 1) := by decide +kernel
theorem dX5_addPlace_30 : decode cX5_addPlace 30 = .ok (.aload_n 0, 1) := by decide +kernel
theorem dX5_addPlace_31 : decode cX5_addPlace 31 = .ok (.dup, 1) := by decide +kernel
theorem dX5_addPlace_32 : decode cX5_addPlace 32 = .ok (.getfield 15, 3) := by decide +kernel
theorem dX5_addPlace_35 : decode cX5_addPlace 35 = .ok (.iconst 1, 1) := by decide +kernel
theorem dX5_addPlace_36 : decode cX5_addPlace 36 = .ok (.iadd, 1) := by decide +kernel
theorem dX5_addPlace_37 : decode cX5_addPlace 37 = .ok (.putfield 15, 3) := by decide +kernel
theorem dX5_addPlace_40 : decode cX5_addPlace 40 = .ok (.return_, 1) := by decide +kernel
theorem dX5_isFree_0 : decode cX5_isFree 0 = .ok (.iload_n 1, 1) := by decide +kernel
theorem dX5_isFree_1 : decode cX5_isFree 1 = .ok (.istore_n 3, 1) := by decide +kernel
theorem dX5_isFree_2 : decode cX5_isFree 2 = .ok (.iload_n 3, 1) := by decide +kernel
theorem dX5_isFree_3 : decode cX5_isFree 3 = .ok (.iload_n 1, 1) := by decide +kernel
theorem dX5_isFree_4 : decode cX5_isFree 4 = .ok (.iload_n 2, 1) := by decide +kernel
theorem dX5_isFree_5 : decode cX5_isFree 5 = .ok (.iadd, 1) := by decide +kernel
theorem dX5_isFree_6 : decode cX5_isFree 6 = .ok (.if_icmp .ge 21, 3) := by decide +kernel
theorem dX5_isFree_9 : decode cX5_isFree 9 = .ok (.aload_n 0, 1) := by decide +kernel
theorem dX5_isFree_10 : decode cX5_isFree 10 = .ok (.getfield 40, 3) := by decide +kernel
theorem dX5_isFree_13 : decode cX5_isFree 13 = .ok (.iload_n 3, 1) := by decide +kernel
theorem dX5_isFree_14 : decode cX5_isFree 14 = .ok (.iaload, 1) := by decide +kernel
theorem dX5_isFree_15 : decode cX5_isFree 15 = .ok (.iconst (-1), 1) := by decide +kernel
theorem dX5_isFree_16 : decode cX5_isFree 16 = .ok (.if_icmp .eq 5, 3) := by decide +kernel
theorem dX5_isFree_19 : decode cX5_isFree 19 = .ok (.iconst 0, 1) := by decide +kernel
theorem dX5_isFree_20 : decode cX5_isFree 20 = .ok (.ireturn, 1) := by decide +kernel
theorem dX5_isFree_21 : decode cX5_isFree 21 = .ok (.iinc 3 1, 3) := by decide +kernel
theorem dX5_isFree_24 : decode cX5_isFree 24 = .ok (.goto (-22), 3) := by decide +kernel
theorem dX5_isFree_27 : decode cX5_isFree 27 = .ok (.iconst 1, 1) := by decide +kernel
theorem dX5_isFree_28 : decode cX5_isFree 28 = .ok (.ireturn, 1) := by decide +kernel
theorem dX5_addRun_0 : decode cX5_addRun 0 = .ok (.aload_n 0, 1) := by decide +kernel
theorem dX5_addRun_1 : decode cX5_addRun 1 = .ok (.getfield 49, 3) := by decide +kernel
theorem dX5_addRun_4 : decode cX5_addRun 4 = .ok (.aload_n 0, 1) := by decide +kernel
theorem dX5_addRun_5 : decode cX5_addRun 5 = .ok (.getfield 21, 3) := by decide +kernel
theorem dX5_addRun_8 : decode cX5_addRun 8 = .ok (.iload_n 1, 1) := by decide +kernel
theorem dX5_addRun_9 : decode cX5_addRun 9 = .ok (.iastore, 1) := by decide +kernel
theorem dX5_addRun_10 : decode cX5_addRun 10 = .ok (.aload_n 0, 1) := by decide +kernel
theorem dX5_addRun_11 : decode cX5_addRun 11 = .ok (.getfield 52, 3) := by decide +kernel
theorem dX5_addRun_14 : decode cX5_addRun 14 = .ok (.aload_n 0, 1) := by decide +kernel
theorem dX5_addRun_15 : decode cX5_addRun 15 = .ok (.getfield 21, 3) := by decide +kernel
theorem dX5_addRun_18 : decode cX5_addRun 18 = .ok (.iload_n 2, 1) := by decide +kernel
theorem dX5_addRun_19 : decode cX5_addRun 19 = .ok (.iastore, 1) := by decide +kernel
theorem dX5_addRun_20 : decode cX5_addRun 20 = .ok (.iload_n 1, 1) := by decide +kernel
theorem dX5_addRun_21 : decode cX5_addRun 21 = .ok (.istore_n 3, 1) := by decide +kernel
theorem dX5_addRun_22 : decode cX5_addRun 22 = .ok (.iload_n 3, 1) := by decide +kernel
theorem dX5_addRun_23 : decode cX5_addRun 23 = .ok (.iload_n 1, 1) := by decide +kernel
theorem dX5_addRun_24 : decode cX5_addRun 24 = .ok (.iload_n 2, 1) := by decide +kernel
theorem dX5_addRun_25 : decode cX5_addRun 25 = .ok (.iadd, 1) := by decide +kernel
theorem dX5_addRun_26 : decode cX5_addRun 26 = .ok (.if_icmp .ge 19, 3) := by decide +kernel
theorem dX5_addRun_29 : decode cX5_addRun 29 = .ok (.aload_n 0, 1) := by decide +kernel
theorem dX5_addRun_30 : decode cX5_addRun 30 = .ok (.getfield 40, 3) := by decide +kernel
theorem dX5_addRun_33 : decode cX5_addRun 33 = .ok (.iload_n 3, 1) := by decide +kernel
theorem dX5_addRun_34 : decode cX5_addRun 34 = .ok (.aload_n 0, 1) := by decide +kernel
theorem dX5_addRun_35 : decode cX5_addRun 35 = .ok (.getfield 21, 3) := by decide +kernel
theorem dX5_addRun_38 : decode cX5_addRun 38 = .ok (.iastore, 1) := by decide +kernel
theorem dX5_addRun_39 : decode cX5_addRun 39 = .ok (.iinc 3 1, 3) := by decide +kernel
theorem dX5_addRun_42 : decode cX5_addRun 42 = .ok (.goto (-20), 3) := by decide +kernel
theorem dX5_addRun_45 : decode cX5_addRun 45 = .ok (.aload_n 0, 1) := by decide +kernel
theorem dX5_addRun_46 : decode cX5_addRun 46 = .ok (.dup, 1) := by decide +kernel
theorem dX5_addRun_47 : decode cX5_addRun 47 = .ok (.getfield 21, 3) := by decide +kernel
theorem dX5_addRun_50 : decode cX5_addRun 50 = .ok (.iconst 1, 1) := by decide +kernel
theorem dX5_addRun_51 : decode cX5_addRun 51 = .ok (.iadd, 1) := by decide +kernel
theorem dX5_addRun_52 : decode cX5_addRun 52 = .ok (.putfield 21, 3) := by decide +kernel
theorem dX5_addRun_55 : decode cX5_addRun 55 = .ok (.return_, 1) := by decide +kernel
theorem dX5_letterOf_0 : decode cX5_letterOf 0 = .ok (.aload_n 0, 1) := by decide +kernel
theorem dX5_letterOf_1 : decode cX5_letterOf 1 = .ok (.getfield 46, 3) := by decide +kernel
theorem dX5_letterOf_4 : decode cX5_letterOf 4 = .ok (.iload_n 1, 1) := by decide +kernel
theorem dX5_letterOf_5 : decode cX5_letterOf 5 = .ok (.bipush 6, 2) := by decide +kernel
theorem dX5_letterOf_7 : decode cX5_letterOf 7 = .ok (.imul, 1) := by decide +kernel
theorem dX5_letterOf_8 : decode cX5_letterOf 8 = .ok (.iload_n 2, 1) := by decide +kernel
theorem dX5_letterOf_9 : decode cX5_letterOf 9 = .ok (.iadd, 1) := by decide +kernel
theorem dX5_letterOf_10 : decode cX5_letterOf 10 = .ok (.iaload, 1) := by decide +kernel
theorem dX5_letterOf_11 : decode cX5_letterOf 11 = .ok (.ireturn, 1) := by decide +kernel
theorem dX5_lettersThatFit_0 : decode cX5_lettersThatFit 0 = .ok (.iload_n 1, 1) := by decide +kernel
theorem dX5_lettersThatFit_1 : decode cX5_lettersThatFit 1 = .ok (.invokestatic 55, 3) := by decide +kernel
theorem dX5_lettersThatFit_4 : decode cX5_lettersThatFit 4 = .ok (.istore_n 2, 1) := by decide +kernel
theorem dX5_lettersThatFit_5 : decode cX5_lettersThatFit 5 = .ok (.iload_n 1, 1) := by decide +kernel
theorem dX5_lettersThatFit_6 : decode cX5_lettersThatFit 6 = .ok (.invokestatic 59, 3) := by decide +kernel
theorem dX5_lettersThatFit_9 : decode cX5_lettersThatFit 9 = .ok (.istore_n 3, 1) := by decide +kernel
theorem dX5_lettersThatFit_10 : decode cX5_lettersThatFit 10 = .ok (.iconst 0, 1) := by decide +kernel
theorem dX5_lettersThatFit_11 : decode cX5_lettersThatFit 11 = .ok (.istore 4, 2) := by decide +kernel
theorem dX5_lettersThatFit_13 : decode cX5_lettersThatFit 13 = .ok (.iconst 0, 1) := by decide +kernel
theorem dX5_lettersThatFit_14 : decode cX5_lettersThatFit 14 = .ok (.istore 5, 2) := by decide +kernel
theorem dX5_lettersThatFit_16 : decode cX5_lettersThatFit 16 = .ok (.iload 5, 2) := by decide +kernel
theorem dX5_lettersThatFit_18 : decode cX5_lettersThatFit 18 = .ok (.aload_n 0, 1) := by decide +kernel
theorem dX5_lettersThatFit_19 : decode cX5_lettersThatFit 19 = .ok (.getfield 9, 3) := by decide +kernel
theorem dX5_lettersThatFit_22 : decode cX5_lettersThatFit 22 = .ok (.if_icmp .ge 44, 3) := by decide +kernel
theorem dX5_lettersThatFit_25 : decode cX5_lettersThatFit 25 = .ok (.aload_n 0, 1) := by decide +kernel
theorem dX5_lettersThatFit_26 : decode cX5_lettersThatFit 26 = .ok (.getfield 28, 3) := by decide +kernel
theorem dX5_lettersThatFit_29 : decode cX5_lettersThatFit 29 = .ok (.iload 5, 2) := by decide +kernel
theorem dX5_lettersThatFit_31 : decode cX5_lettersThatFit 31 = .ok (.iaload, 1) := by decide +kernel
theorem dX5_lettersThatFit_32 : decode cX5_lettersThatFit 32 = .ok (.iload_n 2, 1) := by decide +kernel
theorem dX5_lettersThatFit_33 : decode cX5_lettersThatFit 33 = .ok (.iand, 1) := by decide +kernel
theorem dX5_lettersThatFit_34 : decode cX5_lettersThatFit 34 = .ok (.ifCond .ne 26, 3) := by decide +kernel
theorem dX5_lettersThatFit_37 : decode cX5_lettersThatFit 37 = .ok (.iload_n 3, 1) := by decide +kernel
theorem dX5_lettersThatFit_38 : decode cX5_lettersThatFit 38 = .ok (.aload_n 0, 1) := by decide +kernel
theorem dX5_lettersThatFit_39 : decode cX5_lettersThatFit 39 = .ok (.getfield 28, 3) := by decide +kernel
theorem dX5_lettersThatFit_42 : decode cX5_lettersThatFit 42 = .ok (.iload 5, 2) := by decide +kernel
theorem dX5_lettersThatFit_44 : decode cX5_lettersThatFit 44 = .ok (.iaload, 1) := by decide +kernel
theorem dX5_lettersThatFit_45 : decode cX5_lettersThatFit 45 = .ok (.iconst (-1), 1) := by decide +kernel
theorem dX5_lettersThatFit_46 : decode cX5_lettersThatFit 46 = .ok (.ixor, 1) := by decide +kernel
theorem dX5_lettersThatFit_47 : decode cX5_lettersThatFit 47 = .ok (.iand, 1) := by decide +kernel
theorem dX5_lettersThatFit_48 : decode cX5_lettersThatFit 48 = .ok (.ifCond .ne 12, 3) := by decide +kernel
theorem dX5_lettersThatFit_51 : decode cX5_lettersThatFit 51 = .ok (.iload 4, 2) := by decide +kernel
theorem dX5_lettersThatFit_53 : decode cX5_lettersThatFit 53 = .ok (.iconst 1, 1) := by decide +kernel
theorem dX5_lettersThatFit_54 : decode cX5_lettersThatFit 54 = .ok (.iload 5, 2) := by decide +kernel
theorem dX5_lettersThatFit_56 : decode cX5_lettersThatFit 56 = .ok (.ishl, 1) := by decide +kernel
theorem dX5_lettersThatFit_57 : decode cX5_lettersThatFit 57 = .ok (.ior, 1) := by decide +kernel
theorem dX5_lettersThatFit_58 : decode cX5_lettersThatFit 58 = .ok (.istore 4, 2) := by decide +kernel
theorem dX5_lettersThatFit_60 : decode cX5_lettersThatFit 60 = .ok (.iinc 5 1, 3) := by decide +kernel
theorem dX5_lettersThatFit_63 : decode cX5_lettersThatFit 63 = .ok (.goto (-47), 3) := by decide +kernel
theorem dX5_lettersThatFit_66 : decode cX5_lettersThatFit 66 = .ok (.iload 4, 2) := by decide +kernel
theorem dX5_lettersThatFit_68 : decode cX5_lettersThatFit 68 = .ok (.ireturn, 1) := by decide +kernel
theorem dX5_wordFits_0 : decode cX5_wordFits 0 = .ok (.aload_n 0, 1) := by decide +kernel
theorem dX5_wordFits_1 : decode cX5_wordFits 1 = .ok (.getfield 43, 3) := by decide +kernel
theorem dX5_wordFits_4 : decode cX5_wordFits 4 = .ok (.iload_n 1, 1) := by decide +kernel
theorem dX5_wordFits_5 : decode cX5_wordFits 5 = .ok (.iaload, 1) := by decide +kernel
theorem dX5_wordFits_6 : decode cX5_wordFits 6 = .ok (.aload_n 0, 1) := by decide +kernel
theorem dX5_wordFits_7 : decode cX5_wordFits 7 = .ok (.getfield 52, 3) := by decide +kernel
theorem dX5_wordFits_10 : decode cX5_wordFits 10 = .ok (.iload_n 2, 1) := by decide +kernel
theorem dX5_wordFits_11 : decode cX5_wordFits 11 = .ok (.iaload, 1) := by decide +kernel
theorem dX5_wordFits_12 : decode cX5_wordFits 12 = .ok (.if_icmp .eq 5, 3) := by decide +kernel
theorem dX5_wordFits_15 : decode cX5_wordFits 15 = .ok (.iconst 0, 1) := by decide +kernel
theorem dX5_wordFits_16 : decode cX5_wordFits 16 = .ok (.ireturn, 1) := by decide +kernel
theorem dX5_wordFits_17 : decode cX5_wordFits 17 = .ok (.iconst 0, 1) := by decide +kernel
theorem dX5_wordFits_18 : decode cX5_wordFits 18 = .ok (.istore 4, 2) := by decide +kernel
theorem dX5_wordFits_20 : decode cX5_wordFits 20 = .ok (.iload 4, 2) := by decide +kernel
theorem dX5_wordFits_22 : decode cX5_wordFits 22 = .ok (.aload_n 0, 1) := by decide +kernel
theorem dX5_wordFits_23 : decode cX5_wordFits 23 = .ok (.getfield 52, 3) := by decide +kernel
theorem dX5_wordFits_26 : decode cX5_wordFits 26 = .ok (.iload_n 2, 1) := by decide +kernel
theorem dX5_wordFits_27 : decode cX5_wordFits 27 = .ok (.iaload, 1) := by decide +kernel
theorem dX5_wordFits_28 : decode cX5_wordFits 28 = .ok (.if_icmp .ge 35, 3) := by decide +kernel
theorem dX5_wordFits_31 : decode cX5_wordFits 31 = .ok (.aload_n 3, 1) := by decide +kernel
theorem dX5_wordFits_32 : decode cX5_wordFits 32 = .ok (.aload_n 0, 1) := by decide +kernel
theorem dX5_wordFits_33 : decode cX5_wordFits 33 = .ok (.getfield 49, 3) := by decide +kernel
theorem dX5_wordFits_36 : decode cX5_wordFits 36 = .ok (.iload_n 2, 1) := by decide +kernel
theorem dX5_wordFits_37 : decode cX5_wordFits 37 = .ok (.iaload, 1) := by decide +kernel
theorem dX5_wordFits_38 : decode cX5_wordFits 38 = .ok (.iload 4, 2) := by decide +kernel
theorem dX5_wordFits_40 : decode cX5_wordFits 40 = .ok (.iadd, 1) := by decide +kernel
theorem dX5_wordFits_41 : decode cX5_wordFits 41 = .ok (.iaload, 1) := by decide +kernel
theorem dX5_wordFits_42 : decode cX5_wordFits 42 = .ok (.aload_n 0, 1) := by decide +kernel
theorem dX5_wordFits_43 : decode cX5_wordFits 43 = .ok (.iload_n 1, 1) := by decide +kernel
theorem dX5_wordFits_44 : decode cX5_wordFits 44 = .ok (.iload 4, 2) := by decide +kernel
theorem dX5_wordFits_46 : decode cX5_wordFits 46 = .ok (.invokevirtual 62, 3) := by decide +kernel
theorem dX5_wordFits_49 : decode cX5_wordFits 49 = .ok (.ishr, 1) := by decide +kernel
theorem dX5_wordFits_50 : decode cX5_wordFits 50 = .ok (.iconst 1, 1) := by decide +kernel
theorem dX5_wordFits_51 : decode cX5_wordFits 51 = .ok (.iand, 1) := by decide +kernel
theorem dX5_wordFits_52 : decode cX5_wordFits 52 = .ok (.ifCond .ne 5, 3) := by decide +kernel
theorem dX5_wordFits_55 : decode cX5_wordFits 55 = .ok (.iconst 0, 1) := by decide +kernel
theorem dX5_wordFits_56 : decode cX5_wordFits 56 = .ok (.ireturn, 1) := by decide +kernel
theorem dX5_wordFits_57 : decode cX5_wordFits 57 = .ok (.iinc 4 1, 3) := by decide +kernel
theorem dX5_wordFits_60 : decode cX5_wordFits 60 = .ok (.goto (-40), 3) := by decide +kernel
theorem dX5_wordFits_63 : decode cX5_wordFits 63 = .ok (.iconst 1, 1) := by decide +kernel
theorem dX5_wordFits_64 : decode cX5_wordFits 64 = .ok (.ireturn, 1) := by decide +kernel
theorem dX5_lettersOfWords_0 : decode cX5_lettersOfWords 0 = .ok (.aload_n 0, 1) := by decide +kernel
theorem dX5_lettersOfWords_1 : decode cX5_lettersOfWords 1 = .ok (.getfield 40, 3) := by decide +kernel
theorem dX5_lettersOfWords_4 : decode cX5_lettersOfWords 4 = .ok (.iload_n 1, 1) := by decide +kernel
theorem dX5_lettersOfWords_5 : decode cX5_lettersOfWords 5 = .ok (.iaload, 1) := by decide +kernel
theorem dX5_lettersOfWords_6 : decode cX5_lettersOfWords 6 = .ok (.istore_n 3, 1) := by decide +kernel
theorem dX5_lettersOfWords_7 : decode cX5_lettersOfWords 7 = .ok (.iconst 0, 1) := by decide +kernel
theorem dX5_lettersOfWords_8 : decode cX5_lettersOfWords 8 = .ok (.istore 4, 2) := by decide +kernel
theorem dX5_lettersOfWords_10 : decode cX5_lettersOfWords 10 = .ok (.iconst 0, 1) := by decide +kernel
theorem dX5_lettersOfWords_11 : decode cX5_lettersOfWords 11 = .ok (.istore 5, 2) := by decide +kernel
theorem dX5_lettersOfWords_13 : decode cX5_lettersOfWords 13 = .ok (.iload 5, 2) := by decide +kernel
theorem dX5_lettersOfWords_15 : decode cX5_lettersOfWords 15 = .ok (.aload_n 0, 1) := by decide +kernel
theorem dX5_lettersOfWords_16 : decode cX5_lettersOfWords 16 = .ok (.getfield 18, 3) := by decide +kernel
theorem dX5_lettersOfWords_19 : decode cX5_lettersOfWords 19 = .ok (.if_icmp .ge 41, 3) := by decide +kernel
theorem dX5_lettersOfWords_22 : decode cX5_lettersOfWords 22 = .ok (.aload_n 0, 1) := by decide +kernel
theorem dX5_lettersOfWords_23 : decode cX5_lettersOfWords 23 = .ok (.iload 5, 2) := by decide +kernel
theorem dX5_lettersOfWords_25 : decode cX5_lettersOfWords 25 = .ok (.iload_n 3, 1) := by decide +kernel
theorem dX5_lettersOfWords_26 : decode cX5_lettersOfWords 26 = .ok (.aload_n 2, 1) := by decide +kernel
theorem dX5_lettersOfWords_27 : decode cX5_lettersOfWords 27 = .ok (.invokevirtual 66, 3) := by decide +kernel
theorem dX5_lettersOfWords_30 : decode cX5_lettersOfWords 30 = .ok (.ifCond .eq 24, 3) := by decide +kernel
theorem dX5_lettersOfWords_33 : decode cX5_lettersOfWords 33 = .ok (.iload 4, 2) := by decide +kernel
theorem dX5_lettersOfWords_35 : decode cX5_lettersOfWords 35 = .ok (.iconst 1, 1) := by decide +kernel
theorem dX5_lettersOfWords_36 : decode cX5_lettersOfWords 36 = .ok (.aload_n 0, 1) := by decide +kernel
theorem dX5_lettersOfWords_37 : decode cX5_lettersOfWords 37 = .ok (.iload 5, 2) := by decide +kernel
theorem dX5_lettersOfWords_39 : decode cX5_lettersOfWords 39 = .ok (.iload_n 1, 1) := by decide +kernel
theorem dX5_lettersOfWords_40 : decode cX5_lettersOfWords 40 = .ok (.aload_n 0, 1) := by decide +kernel
theorem dX5_lettersOfWords_41 : decode cX5_lettersOfWords 41 = .ok (.getfield 49, 3) := by decide +kernel
theorem dX5_lettersOfWords_44 : decode cX5_lettersOfWords 44 = .ok (.iload_n 3, 1) := by decide +kernel
theorem dX5_lettersOfWords_45 : decode cX5_lettersOfWords 45 = .ok (.iaload, 1) := by decide +kernel
theorem dX5_lettersOfWords_46 : decode cX5_lettersOfWords 46 = .ok (.isub, 1) := by decide +kernel
theorem dX5_lettersOfWords_47 : decode cX5_lettersOfWords 47 = .ok (.invokevirtual 62, 3) := by decide +kernel
theorem dX5_lettersOfWords_50 : decode cX5_lettersOfWords 50 = .ok (.ishl, 1) := by decide +kernel
theorem dX5_lettersOfWords_51 : decode cX5_lettersOfWords 51 = .ok (.ior, 1) := by decide +kernel
theorem dX5_lettersOfWords_52 : decode cX5_lettersOfWords 52 = .ok (.istore 4, 2) := by decide +kernel
theorem dX5_lettersOfWords_54 : decode cX5_lettersOfWords 54 = .ok (.iinc 5 1, 3) := by decide +kernel
theorem dX5_lettersOfWords_57 : decode cX5_lettersOfWords 57 = .ok (.goto (-44), 3) := by decide +kernel
theorem dX5_lettersOfWords_60 : decode cX5_lettersOfWords 60 = .ok (.iload 4, 2) := by decide +kernel
theorem dX5_lettersOfWords_62 : decode cX5_lettersOfWords 62 = .ok (.ireturn, 1) := by decide +kernel
theorem dX5_weightOfWord_0 : decode cX5_weightOfWord 0 = .ok (.lconst 1, 1) := by decide +kernel
theorem dX5_weightOfWord_1 : decode cX5_weightOfWord 1 = .ok (.lstore_n 2, 1) := by decide +kernel
theorem dX5_weightOfWord_2 : decode cX5_weightOfWord 2 = .ok (.iconst 0, 1) := by decide +kernel
theorem dX5_weightOfWord_3 : decode cX5_weightOfWord 3 = .ok (.istore 4, 2) := by decide +kernel
theorem dX5_weightOfWord_5 : decode cX5_weightOfWord 5 = .ok (.iload 4, 2) := by decide +kernel
theorem dX5_weightOfWord_7 : decode cX5_weightOfWord 7 = .ok (.aload_n 0, 1) := by decide +kernel
theorem dX5_weightOfWord_8 : decode cX5_weightOfWord 8 = .ok (.getfield 43, 3) := by decide +kernel
theorem dX5_weightOfWord_11 : decode cX5_weightOfWord 11 = .ok (.iload_n 1, 1) := by decide +kernel
theorem dX5_weightOfWord_12 : decode cX5_weightOfWord 12 = .ok (.iaload, 1) := by decide +kernel
theorem dX5_weightOfWord_13 : decode cX5_weightOfWord 13 = .ok (.if_icmp .ge 25, 3) := by decide +kernel
theorem dX5_weightOfWord_16 : decode cX5_weightOfWord 16 = .ok (.lload_n 2, 1) := by decide +kernel
theorem dX5_weightOfWord_17 : decode cX5_weightOfWord 17 = .ok (.aload_n 0, 1) := by decide +kernel
theorem dX5_weightOfWord_18 : decode cX5_weightOfWord 18 = .ok (.getfield 31, 3) := by decide +kernel
theorem dX5_weightOfWord_21 : decode cX5_weightOfWord 21 = .ok (.aload_n 0, 1) := by decide +kernel
theorem dX5_weightOfWord_22 : decode cX5_weightOfWord 22 = .ok (.iload_n 1, 1) := by decide +kernel
theorem dX5_weightOfWord_23 : decode cX5_weightOfWord 23 = .ok (.iload 4, 2) := by decide +kernel
theorem dX5_weightOfWord_25 : decode cX5_weightOfWord 25 = .ok (.invokevirtual 62, 3) := by decide +kernel
theorem dX5_weightOfWord_28 : decode cX5_weightOfWord 28 = .ok (.iaload, 1) := by decide +kernel
theorem dX5_weightOfWord_29 : decode cX5_weightOfWord 29 = .ok (.i2l, 1) := by decide +kernel
theorem dX5_weightOfWord_30 : decode cX5_weightOfWord 30 = .ok (.lmul, 1) := by decide +kernel
theorem dX5_weightOfWord_31 : decode cX5_weightOfWord 31 = .ok (.lstore_n 2, 1) := by decide +kernel
theorem dX5_weightOfWord_32 : decode cX5_weightOfWord 32 = .ok (.iinc 4 1, 3) := by decide +kernel
theorem dX5_weightOfWord_35 : decode cX5_weightOfWord 35 = .ok (.goto (-30), 3) := by decide +kernel
theorem dX5_weightOfWord_38 : decode cX5_weightOfWord 38 = .ok (.lload_n 2, 1) := by decide +kernel
theorem dX5_weightOfWord_39 : decode cX5_weightOfWord 39 = .ok (.lreturn, 1) := by decide +kernel
theorem dX5_heaviestOf_0 : decode cX5_heaviestOf 0 = .ok (.iconst (-1), 1) := by decide +kernel
theorem dX5_heaviestOf_1 : decode cX5_heaviestOf 1 = .ok (.istore_n 2, 1) := by decide +kernel
theorem dX5_heaviestOf_2 : decode cX5_heaviestOf 2 = .ok (.iconst 0, 1) := by decide +kernel
theorem dX5_heaviestOf_3 : decode cX5_heaviestOf 3 = .ok (.istore_n 3, 1) := by decide +kernel
theorem dX5_heaviestOf_4 : decode cX5_heaviestOf 4 = .ok (.iload_n 3, 1) := by decide +kernel
theorem dX5_heaviestOf_5 : decode cX5_heaviestOf 5 = .ok (.aload_n 0, 1) := by decide +kernel
theorem dX5_heaviestOf_6 : decode cX5_heaviestOf 6 = .ok (.getfield 9, 3) := by decide +kernel
theorem dX5_heaviestOf_9 : decode cX5_heaviestOf 9 = .ok (.if_icmp .ge 51, 3) := by decide +kernel
theorem dX5_heaviestOf_12 : decode cX5_heaviestOf 12 = .ok (.iload_n 1, 1) := by decide +kernel
theorem dX5_heaviestOf_13 : decode cX5_heaviestOf 13 = .ok (.iload_n 3, 1) := by decide +kernel
theorem dX5_heaviestOf_14 : decode cX5_heaviestOf 14 = .ok (.ishr, 1) := by decide +kernel
theorem dX5_heaviestOf_15 : decode cX5_heaviestOf 15 = .ok (.iconst 1, 1) := by decide +kernel
theorem dX5_heaviestOf_16 : decode cX5_heaviestOf 16 = .ok (.iand, 1) := by decide +kernel
theorem dX5_heaviestOf_17 : decode cX5_heaviestOf 17 = .ok (.ifCond .eq 7, 3) := by decide +kernel
theorem dX5_heaviestOf_20 : decode cX5_heaviestOf 20 = .ok (.iconst 1, 1) := by decide +kernel
theorem dX5_heaviestOf_21 : decode cX5_heaviestOf 21 = .ok (.goto 4, 3) := by decide +kernel
theorem dX5_heaviestOf_24 : decode cX5_heaviestOf 24 = .ok (.iconst 0, 1) := by decide +kernel
theorem dX5_heaviestOf_25 : decode cX5_heaviestOf 25 = .ok (.istore 4, 2) := by decide +kernel
theorem dX5_heaviestOf_27 : decode cX5_heaviestOf 27 = .ok (.iload 4, 2) := by decide +kernel
theorem dX5_heaviestOf_29 : decode cX5_heaviestOf 29 = .ok (.ifCond .eq 25, 3) := by decide +kernel
theorem dX5_heaviestOf_32 : decode cX5_heaviestOf 32 = .ok (.iload_n 2, 1) := by decide +kernel
theorem dX5_heaviestOf_33 : decode cX5_heaviestOf 33 = .ok (.iconst (-1), 1) := by decide +kernel
theorem dX5_heaviestOf_34 : decode cX5_heaviestOf 34 = .ok (.if_icmp .eq 18, 3) := by decide +kernel
theorem dX5_heaviestOf_37 : decode cX5_heaviestOf 37 = .ok (.aload_n 0, 1) := by decide +kernel
theorem dX5_heaviestOf_38 : decode cX5_heaviestOf 38 = .ok (.getfield 31, 3) := by decide +kernel
theorem dX5_heaviestOf_41 : decode cX5_heaviestOf 41 = .ok (.iload_n 3, 1) := by decide +kernel
theorem dX5_heaviestOf_42 : decode cX5_heaviestOf 42 = .ok (.iaload, 1) := by decide +kernel
theorem dX5_heaviestOf_43 : decode cX5_heaviestOf 43 = .ok (.aload_n 0, 1) := by decide +kernel
theorem dX5_heaviestOf_44 : decode cX5_heaviestOf 44 = .ok (.getfield 31, 3) := by decide +kernel
theorem dX5_heaviestOf_47 : decode cX5_heaviestOf 47 = .ok (.iload_n 2, 1) := by decide +kernel
theorem dX5_heaviestOf_48 : decode cX5_heaviestOf 48 = .ok (.iaload, 1) := by decide +kernel
theorem dX5_heaviestOf_49 : decode cX5_heaviestOf 49 = .ok (.if_icmp .le 5, 3) := by decide +kernel
theorem dX5_heaviestOf_52 : decode cX5_heaviestOf 52 = .ok (.iload_n 3, 1) := by decide +kernel
theorem dX5_heaviestOf_53 : decode cX5_heaviestOf 53 = .ok (.istore_n 2, 1) := by decide +kernel
theorem dX5_heaviestOf_54 : decode cX5_heaviestOf 54 = .ok (.iinc 3 1, 3) := by decide +kernel
theorem dX5_heaviestOf_57 : decode cX5_heaviestOf 57 = .ok (.goto (-53), 3) := by decide +kernel
theorem dX5_heaviestOf_60 : decode cX5_heaviestOf 60 = .ok (.iload_n 2, 1) := by decide +kernel
theorem dX5_heaviestOf_61 : decode cX5_heaviestOf 61 = .ok (.ireturn, 1) := by decide +kernel
theorem dX5_share_0 : decode cX5_share 0 = .ok (.iload_n 2, 1) := by decide +kernel
theorem dX5_share_1 : decode cX5_share 1 = .ok (.iload_n 1, 1) := by decide +kernel
theorem dX5_share_2 : decode cX5_share 2 = .ok (.ishr, 1) := by decide +kernel
theorem dX5_share_3 : decode cX5_share 3 = .ok (.iconst 1, 1) := by decide +kernel
theorem dX5_share_4 : decode cX5_share 4 = .ok (.iand, 1) := by decide +kernel
theorem dX5_share_5 : decode cX5_share 5 = .ok (.ifCond .ne 5, 3) := by decide +kernel
theorem dX5_share_8 : decode cX5_share 8 = .ok (.fconst 0, 1) := by decide +kernel
theorem dX5_share_9 : decode cX5_share 9 = .ok (.freturn, 1) := by decide +kernel
theorem dX5_share_10 : decode cX5_share 10 = .ok (.iconst 0, 1) := by decide +kernel
theorem dX5_share_11 : decode cX5_share 11 = .ok (.istore_n 3, 1) := by decide +kernel
theorem dX5_share_12 : decode cX5_share 12 = .ok (.iconst 0, 1) := by decide +kernel
theorem dX5_share_13 : decode cX5_share 13 = .ok (.istore 4, 2) := by decide +kernel
theorem dX5_share_15 : decode cX5_share 15 = .ok (.iload 4, 2) := by decide +kernel
theorem dX5_share_17 : decode cX5_share 17 = .ok (.aload_n 0, 1) := by decide +kernel
theorem dX5_share_18 : decode cX5_share 18 = .ok (.getfield 9, 3) := by decide +kernel
theorem dX5_share_21 : decode cX5_share 21 = .ok (.if_icmp .ge 28, 3) := by decide +kernel
theorem dX5_share_24 : decode cX5_share 24 = .ok (.iload_n 2, 1) := by decide +kernel
theorem dX5_share_25 : decode cX5_share 25 = .ok (.iload 4, 2) := by decide +kernel
theorem dX5_share_27 : decode cX5_share 27 = .ok (.ishr, 1) := by decide +kernel
theorem dX5_share_28 : decode cX5_share 28 = .ok (.iconst 1, 1) := by decide +kernel
theorem dX5_share_29 : decode cX5_share 29 = .ok (.iand, 1) := by decide +kernel
theorem dX5_share_30 : decode cX5_share 30 = .ok (.ifCond .eq 13, 3) := by decide +kernel
theorem dX5_share_33 : decode cX5_share 33 = .ok (.iload_n 3, 1) := by decide +kernel
theorem dX5_share_34 : decode cX5_share 34 = .ok (.aload_n 0, 1) := by decide +kernel
theorem dX5_share_35 : decode cX5_share 35 = .ok (.getfield 31, 3) := by decide +kernel
theorem dX5_share_38 : decode cX5_share 38 = .ok (.iload 4, 2) := by decide +kernel
theorem dX5_share_40 : decode cX5_share 40 = .ok (.iaload, 1) := by decide +kernel
theorem dX5_share_41 : decode cX5_share 41 = .ok (.iadd, 1) := by decide +kernel
theorem dX5_share_42 : decode cX5_share 42 = .ok (.istore_n 3, 1) := by decide +kernel
theorem dX5_share_43 : decode cX5_share 43 = .ok (.iinc 4 1, 3) := by decide +kernel
theorem dX5_share_46 : decode cX5_share 46 = .ok (.goto (-31), 3) := by decide +kernel
theorem dX5_share_49 : decode cX5_share 49 = .ok (.iload_n 3, 1) := by decide +kernel
theorem dX5_share_50 : decode cX5_share 50 = .ok (.ifCond .le 16, 3) := by decide +kernel
theorem dX5_share_53 : decode cX5_share 53 = .ok (.aload_n 0, 1) := by decide +kernel
theorem dX5_share_54 : decode cX5_share 54 = .ok (.getfield 31, 3) := by decide +kernel
theorem dX5_share_57 : decode cX5_share 57 = .ok (.iload_n 1, 1) := by decide +kernel
theorem dX5_share_58 : decode cX5_share 58 = .ok (.iaload, 1) := by decide +kernel
theorem dX5_share_59 : decode cX5_share 59 = .ok (.i2f, 1) := by decide +kernel
theorem dX5_share_60 : decode cX5_share 60 = .ok (.iload_n 3, 1) := by decide +kernel
theorem dX5_share_61 : decode cX5_share 61 = .ok (.i2f, 1) := by decide +kernel
theorem dX5_share_62 : decode cX5_share 62 = .ok (.fdiv, 1) := by decide +kernel
theorem dX5_share_63 : decode cX5_share 63 = .ok (.goto 4, 3) := by decide +kernel
theorem dX5_share_66 : decode cX5_share 66 = .ok (.fconst 0, 1) := by decide +kernel
theorem dX5_share_67 : decode cX5_share 67 = .ok (.freturn, 1) := by decide +kernel
theorem dX5_signFor_0 : decode cX5_signFor 0 = .ok (.iload_n 1, 1) := by decide +kernel
theorem dX5_signFor_1 : decode cX5_signFor 1 = .ok (.ifCond .ne 6, 3) := by decide +kernel
theorem dX5_signFor_4 : decode cX5_signFor 4 = .ok (.bipush 63, 2) := by decide +kernel
theorem dX5_signFor_6 : decode cX5_signFor 6 = .ok (.ireturn, 1) := by decide +kernel
theorem dX5_signFor_7 : decode cX5_signFor 7 = .ok (.iload_n 1, 1) := by decide +kernel
theorem dX5_signFor_8 : decode cX5_signFor 8 = .ok (.invokestatic 70, 3) := by decide +kernel
theorem dX5_signFor_11 : decode cX5_signFor 11 = .ok (.iconst 1, 1) := by decide +kernel
theorem dX5_signFor_12 : decode cX5_signFor 12 = .ok (.if_icmp .ne 15, 3) := by decide +kernel
theorem dX5_signFor_15 : decode cX5_signFor 15 = .ok (.aload_n 0, 1) := by decide +kernel
theorem dX5_signFor_16 : decode cX5_signFor 16 = .ok (.getfield 24, 3) := by decide +kernel
theorem dX5_signFor_19 : decode cX5_signFor 19 = .ok (.iload_n 1, 1) := by decide +kernel
theorem dX5_signFor_20 : decode cX5_signFor 20 = .ok (.invokestatic 75, 3) := by decide +kernel
theorem dX5_signFor_23 : decode cX5_signFor 23 = .ok (.iaload, 1) := by decide +kernel
theorem dX5_signFor_24 : decode cX5_signFor 24 = .ok (.goto 5, 3) := by decide +kernel
theorem dX5_signFor_27 : decode cX5_signFor 27 = .ok (.bipush 46, 2) := by decide +kernel
theorem dX5_signFor_29 : decode cX5_signFor 29 = .ok (.ireturn, 1) := by decide +kernel
theorem dX6_init_0 : decode cX6_init 0 = .ok (.aload_n 0, 1) := by decide +kernel
theorem dX6_init_1 : decode cX6_init 1 = .ok (.invokespecial 3, 3) := by decide +kernel
theorem dX6_init_4 : decode cX6_init 4 = .ok (.aload_n 0, 1) := by decide +kernel
theorem dX6_init_5 : decode cX6_init 5 = .ok (.iconst 1, 1) := by decide +kernel
theorem dX6_init_6 : decode cX6_init 6 = .ok (.putfield 9, 3) := by decide +kernel
theorem dX6_init_9 : decode cX6_init 9 = .ok (.aload_n 0, 1) := by decide +kernel
theorem dX6_init_10 : decode cX6_init 10 = .ok (.bipush 8, 2) := by decide +kernel
theorem dX6_init_12 : decode cX6_init 12 = .ok (.newarray .int, 2) := by decide +kernel
theorem dX6_init_14 : decode cX6_init 14 = .ok (.putfield 15, 3) := by decide +kernel
theorem dX6_init_17 : decode cX6_init 17 = .ok (.aload_n 0, 1) := by decide +kernel
theorem dX6_init_18 : decode cX6_init 18 = .ok (.bipush 8, 2) := by decide +kernel
theorem dX6_init_20 : decode cX6_init 20 = .ok (.newarray .int, 2) := by decide +kernel
theorem dX6_init_22 : decode cX6_init 22 = .ok (.putfield 19, 3) := by decide +kernel
theorem dX6_init_25 : decode cX6_init 25 = .ok (.aload_n 0, 1) := by decide +kernel
theorem dX6_init_26 : decode cX6_init 26 = .ok (.bipush 8, 2) := by decide +kernel
theorem dX6_init_28 : decode cX6_init 28 = .ok (.newarray .int, 2) := by decide +kernel
theorem dX6_init_30 : decode cX6_init 30 = .ok (.putfield 22, 3) := by decide +kernel
theorem dX6_init_33 : decode cX6_init 33 = .ok (.return_, 1) := by decide +kernel
theorem dX6_refresh_0 : decode cX6_refresh 0 = .ok (.aload_n 0, 1) := by decide +kernel
theorem dX6_refresh_1 : decode cX6_refresh 1 = .ok (.getfield 9, 3) := by decide +kernel
theorem dX6_refresh_4 : decode cX6_refresh 4 = .ok (.ifCond .ne 4, 3) := by decide +kernel
theorem dX6_refresh_7 : decode cX6_refresh 7 = .ok (.return_, 1) := by decide +kernel
theorem dX6_refresh_8 : decode cX6_refresh 8 = .ok (.aload_n 0, 1) := by decide +kernel
theorem dX6_refresh_9 : decode cX6_refresh 9 = .ok (.iconst 0, 1) := by decide +kernel
theorem dX6_refresh_10 : decode cX6_refresh 10 = .ok (.putfield 9, 3) := by decide +kernel
theorem dX6_refresh_13 : decode cX6_refresh 13 = .ok (.aload_n 1, 1) := by decide +kernel
theorem dX6_refresh_14 : decode cX6_refresh 14 = .ok (.aload_n 1, 1) := by decide +kernel
theorem dX6_refresh_15 : decode cX6_refresh 15 = .ok (.getfield 25, 3) := by decide +kernel
theorem dX6_refresh_18 : decode cX6_refresh 18 = .ok (.invokevirtual 31, 3) := by decide +kernel
theorem dX6_refresh_21 : decode cX6_refresh 21 = .ok (.istore_n 3, 1) := by decide +kernel
theorem dX6_refresh_22 : decode cX6_refresh 22 = .ok (.iconst 0, 1) := by decide +kernel
theorem dX6_refresh_23 : decode cX6_refresh 23 = .ok (.istore 4, 2) := by decide +kernel
theorem dX6_refresh_25 : decode cX6_refresh 25 = .ok (.iload 4, 2) := by decide +kernel
theorem dX6_refresh_27 : decode cX6_refresh 27 = .ok (.aload_n 2, 1) := by decide +kernel
theorem dX6_refresh_28 : decode cX6_refresh 28 = .ok (.getfield 35, 3) := by decide +kernel
theorem dX6_refresh_31 : decode cX6_refresh 31 = .ok (.if_icmp .ge 54, 3) := by decide +kernel
theorem dX6_refresh_34 : decode cX6_refresh 34 = .ok (.aload_n 0, 1) := by decide +kernel
theorem dX6_refresh_35 : decode cX6_refresh 35 = .ok (.getfield 15, 3) := by decide +kernel
theorem dX6_refresh_38 : decode cX6_refresh 38 = .ok (.iload 4, 2) := by decide +kernel
theorem dX6_refresh_40 : decode cX6_refresh 40 = .ok (.aload_n 1, 1) := by decide +kernel
theorem dX6_refresh_41 : decode cX6_refresh 41 = .ok (.aload_n 2, 1) := by decide +kernel
theorem dX6_refresh_42 : decode cX6_refresh 42 = .ok (.getfield 40, 3) := by decide +kernel
theorem dX6_refresh_45 : decode cX6_refresh 45 = .ok (.iload 4, 2) := by decide +kernel
theorem dX6_refresh_47 : decode cX6_refresh 47 = .ok (.iaload, 1) := by decide +kernel
theorem dX6_refresh_48 : decode cX6_refresh 48 = .ok (.aload_n 2, 1) := by decide +kernel
theorem dX6_refresh_49 : decode cX6_refresh 49 = .ok (.getfield 43, 3) := by decide +kernel
theorem dX6_refresh_52 : decode cX6_refresh 52 = .ok (.iload 4, 2) := by decide +kernel
theorem dX6_refresh_54 : decode cX6_refresh 54 = .ok (.iaload, 1) := by decide +kernel
theorem dX6_refresh_55 : decode cX6_refresh 55 = .ok (.iload_n 3, 1) := by decide +kernel
theorem dX6_refresh_56 : decode cX6_refresh 56 = .ok (.iconst 0, 1) := by decide +kernel
theorem dX6_refresh_57 : decode cX6_refresh 57 = .ok (.invokevirtual 46, 3) := by decide +kernel
theorem dX6_refresh_60 : decode cX6_refresh 60 = .ok (.iastore, 1) := by decide +kernel
theorem dX6_refresh_61 : decode cX6_refresh 61 = .ok (.aload_n 0, 1) := by decide +kernel
theorem dX6_refresh_62 : decode cX6_refresh 62 = .ok (.getfield 19, 3) := by decide +kernel
theorem dX6_refresh_65 : decode cX6_refresh 65 = .ok (.iload 4, 2) := by decide +kernel
theorem dX6_refresh_67 : decode cX6_refresh 67 = .ok (.aload_n 2, 1) := by decide +kernel
theorem dX6_refresh_68 : decode cX6_refresh 68 = .ok (.aload_n 0, 1) := by decide +kernel
theorem dX6_refresh_69 : decode cX6_refresh 69 = .ok (.getfield 15, 3) := by decide +kernel
theorem dX6_refresh_72 : decode cX6_refresh 72 = .ok (.iload 4, 2) := by decide +kernel
theorem dX6_refresh_74 : decode cX6_refresh 74 = .ok (.iaload, 1) := by decide +kernel
theorem dX6_refresh_75 : decode cX6_refresh 75 = .ok (.invokevirtual 50, 3) := by decide +kernel
theorem dX6_refresh_78 : decode cX6_refresh 78 = .ok (.iastore, 1) := by decide +kernel
theorem dX6_refresh_79 : decode cX6_refresh 79 = .ok (.iinc 4 1, 3) := by decide +kernel
theorem dX6_refresh_82 : decode cX6_refresh 82 = .ok (.goto (-57), 3) := by decide +kernel
theorem dX6_refresh_85 : decode cX6_refresh 85 = .ok (.iconst 0, 1) := by decide +kernel
theorem dX6_refresh_86 : decode cX6_refresh 86 = .ok (.istore 4, 2) := by decide +kernel
theorem dX6_refresh_88 : decode cX6_refresh 88 = .ok (.iload 4, 2) := by decide +kernel
theorem dX6_refresh_90 : decode cX6_refresh 90 = .ok (.aload_n 2, 1) := by decide +kernel
theorem dX6_refresh_91 : decode cX6_refresh 91 = .ok (.getfield 35, 3) := by decide +kernel
theorem dX6_refresh_94 : decode cX6_refresh 94 = .ok (.if_icmp .ge 59, 3) := by decide +kernel
theorem dX6_refresh_97 : decode cX6_refresh 97 = .ok (.aload_n 2, 1) := by decide +kernel
theorem dX6_refresh_98 : decode cX6_refresh 98 = .ok (.getfield 53, 3) := by decide +kernel
theorem dX6_refresh_101 : decode cX6_refresh 101 = .ok (.iload 4, 2) := by decide +kernel
theorem dX6_refresh_103 : decode cX6_refresh 103 = .ok (.iaload, 1) := by decide +kernel
theorem dX6_refresh_104 : decode cX6_refresh 104 = .ok (.iconst (-1), 1) := by decide +kernel
theorem dX6_refresh_105 : decode cX6_refresh 105 = .ok (.if_icmp .eq 7, 3) := by decide +kernel
theorem dX6_refresh_108 : decode cX6_refresh 108 = .ok (.iconst 1, 1) := by decide +kernel
theorem dX6_refresh_109 : decode cX6_refresh 109 = .ok (.goto 4, 3) := by decide +kernel
theorem dX6_refresh_112 : decode cX6_refresh 112 = .ok (.iconst 0, 1) := by decide +kernel
theorem dX6_refresh_113 : decode cX6_refresh 113 = .ok (.istore 5, 2) := by decide +kernel
theorem dX6_refresh_115 : decode cX6_refresh 115 = .ok (.aload_n 0, 1) := by decide +kernel
theorem dX6_refresh_116 : decode cX6_refresh 116 = .ok (.getfield 22, 3) := by decide +kernel
theorem dX6_refresh_119 : decode cX6_refresh 119 = .ok (.iload 4, 2) := by decide +kernel
theorem dX6_refresh_121 : decode cX6_refresh 121 = .ok (.iload 5, 2) := by decide +kernel
theorem dX6_refresh_123 : decode cX6_refresh 123 = .ok (.ifCond .eq 16, 3) := by decide +kernel
theorem dX6_refresh_126 : decode cX6_refresh 126 = .ok (.aload_n 2, 1) := by decide +kernel
theorem dX6_refresh_127 : decode cX6_refresh 127 = .ok (.iload 4, 2) := by decide +kernel
theorem dX6_refresh_129 : decode cX6_refresh 129 = .ok (.aload_n 0, 1) := by decide +kernel
theorem dX6_refresh_130 : decode cX6_refresh 130 = .ok (.getfield 19, 3) := by decide +kernel
theorem dX6_refresh_133 : decode cX6_refresh 133 = .ok (.invokevirtual 56, 3) := by decide +kernel
theorem dX6_refresh_136 : decode cX6_refresh 136 = .ok (.goto 10, 3) := by decide +kernel
theorem dX6_refresh_139 : decode cX6_refresh 139 = .ok (.aload_n 0, 1) := by decide +kernel
theorem dX6_refresh_140 : decode cX6_refresh 140 = .ok (.getfield 19, 3) := by decide +kernel
theorem dX6_refresh_143 : decode cX6_refresh 143 = .ok (.iload 4, 2) := by decide +kernel
theorem dX6_refresh_145 : decode cX6_refresh 145 = .ok (.iaload, 1) := by decide +kernel
theorem dX6_refresh_146 : decode cX6_refresh 146 = .ok (.iastore, 1) := by decide +kernel
theorem dX6_refresh_147 : decode cX6_refresh 147 = .ok (.iinc 4 1, 3) := by decide +kernel
theorem dX6_refresh_150 : decode cX6_refresh 150 = .ok (.goto (-62), 3) := by decide +kernel
theorem dX6_refresh_153 : decode cX6_refresh 153 = .ok (.return_, 1) := by decide +kernel
theorem dX6_placesThatFit_0 : decode cX6_placesThatFit 0 = .ok (.iconst 0, 1) := by decide +kernel
theorem dX6_placesThatFit_1 : decode cX6_placesThatFit 1 = .ok (.istore_n 3, 1) := by decide +kernel
theorem dX6_placesThatFit_2 : decode cX6_placesThatFit 2 = .ok (.iconst 0, 1) := by decide +kernel
theorem dX6_placesThatFit_3 : decode cX6_placesThatFit 3 = .ok (.istore 4, 2) := by decide +kernel
theorem dX6_placesThatFit_5 : decode cX6_placesThatFit 5 = .ok (.iload 4, 2) := by decide +kernel
theorem dX6_placesThatFit_7 : decode cX6_placesThatFit 7 = .ok (.iload_n 2, 1) := by decide +kernel
theorem dX6_placesThatFit_8 : decode cX6_placesThatFit 8 = .ok (.if_icmp .ge 23, 3) := by decide +kernel
theorem dX6_placesThatFit_11 : decode cX6_placesThatFit 11 = .ok (.iload_n 3, 1) := by decide +kernel
theorem dX6_placesThatFit_12 : decode cX6_placesThatFit 12 = .ok (.aload_n 0, 1) := by decide +kernel
theorem dX6_placesThatFit_13 : decode cX6_placesThatFit 13 = .ok (.getfield 19, 3) := by decide +kernel
theorem dX6_placesThatFit_16 : decode cX6_placesThatFit 16 = .ok (.iload 4, 2) := by decide +kernel
theorem dX6_placesThatFit_18 : decode cX6_placesThatFit 18 = .ok (.iaload, 1) := by decide +kernel
theorem dX6_placesThatFit_19 : decode cX6_placesThatFit 19 = .ok (.iload_n 1, 1) := by decide +kernel
theorem dX6_placesThatFit_20 : decode cX6_placesThatFit 20 = .ok (.ishr, 1) := by decide +kernel
theorem dX6_placesThatFit_21 : decode cX6_placesThatFit 21 = .ok (.iconst 1, 1) := by decide +kernel
theorem dX6_placesThatFit_22 : decode cX6_placesThatFit 22 = .ok (.iand, 1) := by decide +kernel
theorem dX6_placesThatFit_23 : decode cX6_placesThatFit 23 = .ok (.iadd, 1) := by decide +kernel
theorem dX6_placesThatFit_24 : decode cX6_placesThatFit 24 = .ok (.istore_n 3, 1) := by decide +kernel
theorem dX6_placesThatFit_25 : decode cX6_placesThatFit 25 = .ok (.iinc 4 1, 3) := by decide +kernel
theorem dX6_placesThatFit_28 : decode cX6_placesThatFit 28 = .ok (.goto (-23), 3) := by decide +kernel
theorem dX6_placesThatFit_31 : decode cX6_placesThatFit 31 = .ok (.iload_n 3, 1) := by decide +kernel
theorem dX6_placesThatFit_32 : decode cX6_placesThatFit 32 = .ok (.ireturn, 1) := by decide +kernel
theorem dX7_init_0 : decode cX7_init 0 = .ok (.aload_n 0, 1) := by decide +kernel
theorem dX7_init_1 : decode cX7_init 1 = .ok (.invokespecial 3, 3) := by decide +kernel
theorem dX7_init_4 : decode cX7_init 4 = .ok (.aload_n 0, 1) := by decide +kernel
theorem dX7_init_5 : decode cX7_init 5 = .ok (.iconst 1, 1) := by decide +kernel
theorem dX7_init_6 : decode cX7_init 6 = .ok (.putfield 9, 3) := by decide +kernel
theorem dX7_init_9 : decode cX7_init 9 = .ok (.aload_n 0, 1) := by decide +kernel
theorem dX7_init_10 : decode cX7_init 10 = .ok (.iconst 1, 1) := by decide +kernel
theorem dX7_init_11 : decode cX7_init 11 = .ok (.putfield 15, 3) := by decide +kernel
theorem dX7_init_14 : decode cX7_init 14 = .ok (.aload_n 0, 1) := by decide +kernel
theorem dX7_init_15 : decode cX7_init 15 = .ok (.iconst 1, 1) := by decide +kernel
theorem dX7_init_16 : decode cX7_init 16 = .ok (.putfield 18, 3) := by decide +kernel
theorem dX7_init_19 : decode cX7_init 19 = .ok (.aload_n 0, 1) := by decide +kernel
theorem dX7_init_20 : decode cX7_init 20 = .ok (.sipush 4096, 3) := by decide +kernel
theorem dX7_init_23 : decode cX7_init 23 = .ok (.newarray .int, 2) := by decide +kernel
theorem dX7_init_25 : decode cX7_init 25 = .ok (.putfield 22, 3) := by decide +kernel
theorem dX7_init_28 : decode cX7_init 28 = .ok (.aload_n 0, 1) := by decide +kernel
theorem dX7_init_29 : decode cX7_init 29 = .ok (.sipush 4096, 3) := by decide +kernel
theorem dX7_init_32 : decode cX7_init 32 = .ok (.newarray .int, 2) := by decide +kernel
theorem dX7_init_34 : decode cX7_init 34 = .ok (.putfield 26, 3) := by decide +kernel
theorem dX7_init_37 : decode cX7_init 37 = .ok (.aload_n 0, 1) := by decide +kernel
theorem dX7_init_38 : decode cX7_init 38 = .ok (.sipush 144, 3) := by decide +kernel
theorem dX7_init_41 : decode cX7_init 41 = .ok (.newarray .int, 2) := by decide +kernel
theorem dX7_init_43 : decode cX7_init 43 = .ok (.putfield 29, 3) := by decide +kernel
theorem dX7_init_46 : decode cX7_init 46 = .ok (.aload_n 0, 1) := by decide +kernel
theorem dX7_init_47 : decode cX7_init 47 = .ok (.bipush 12, 2) := by decide +kernel
theorem dX7_init_49 : decode cX7_init 49 = .ok (.newarray .long, 2) := by decide +kernel
theorem dX7_init_51 : decode cX7_init 51 = .ok (.putfield 32, 3) := by decide +kernel
theorem dX7_init_54 : decode cX7_init 54 = .ok (.return_, 1) := by decide +kernel
theorem dX7_refresh_0 : decode cX7_refresh 0 = .ok (.aload_n 0, 1) := by decide +kernel
theorem dX7_refresh_1 : decode cX7_refresh 1 = .ok (.getfield 9, 3) := by decide +kernel
theorem dX7_refresh_4 : decode cX7_refresh 4 = .ok (.ifCond .eq 17, 3) := by decide +kernel
theorem dX7_refresh_7 : decode cX7_refresh 7 = .ok (.aload_n 0, 1) := by decide +kernel
theorem dX7_refresh_8 : decode cX7_refresh 8 = .ok (.aload_n 0, 1) := by decide +kernel
theorem dX7_refresh_9 : decode cX7_refresh 9 = .ok (.aload_n 1, 1) := by decide +kernel
theorem dX7_refresh_10 : decode cX7_refresh 10 = .ok (.invokevirtual 36, 3) := by decide +kernel
theorem dX7_refresh_13 : decode cX7_refresh 13 = .ok (.putfield 18, 3) := by decide +kernel
theorem dX7_refresh_16 : decode cX7_refresh 16 = .ok (.aload_n 0, 1) := by decide +kernel
theorem dX7_refresh_17 : decode cX7_refresh 17 = .ok (.iconst 0, 1) := by decide +kernel
theorem dX7_refresh_18 : decode cX7_refresh 18 = .ok (.putfield 9, 3) := by decide +kernel
theorem dX7_refresh_21 : decode cX7_refresh 21 = .ok (.return_, 1) := by decide +kernel
theorem dX7_countOnceFor_0 : decode cX7_countOnceFor 0 = .ok (.aload_n 0, 1) := by decide +kernel
theorem dX7_countOnceFor_1 : decode cX7_countOnceFor 1 = .ok (.iconst 1, 1) := by decide +kernel
theorem dX7_countOnceFor_2 : decode cX7_countOnceFor 2 = .ok (.putfield 9, 3) := by decide +kernel
theorem dX7_countOnceFor_5 : decode cX7_countOnceFor 5 = .ok (.aload_n 0, 1) := by decide +kernel
theorem dX7_countOnceFor_6 : decode cX7_countOnceFor 6 = .ok (.aload_n 1, 1) := by decide +kernel
theorem dX7_countOnceFor_7 : decode cX7_countOnceFor 7 = .ok (.invokevirtual 36, 3) := by decide +kernel
theorem dX7_countOnceFor_10 : decode cX7_countOnceFor 10 = .ok (.ireturn, 1) := by decide +kernel
theorem dX7_countRowsTo_0 : decode cX7_countRowsTo 0 = .ok (.iconst 1, 1) := by decide +kernel
theorem dX7_countRowsTo_1 : decode cX7_countRowsTo 1 = .ok (.aload_n 1, 1) := by decide +kernel
theorem dX7_countRowsTo_2 : decode cX7_countRowsTo 2 = .ok (.getfield 40, 3) := by decide +kernel
theorem dX7_countRowsTo_5 : decode cX7_countRowsTo 5 = .ok (.ishl, 1) := by decide +kernel
theorem dX7_countRowsTo_6 : decode cX7_countRowsTo 6 = .ok (.iconst 1, 1) := by decide +kernel
theorem dX7_countRowsTo_7 : decode cX7_countRowsTo 7 = .ok (.isub, 1) := by decide +kernel
theorem dX7_countRowsTo_8 : decode cX7_countRowsTo 8 = .ok (.istore_n 2, 1) := by decide +kernel
theorem dX7_countRowsTo_9 : decode cX7_countRowsTo 9 = .ok (.iconst 1, 1) := by decide +kernel
theorem dX7_countRowsTo_10 : decode cX7_countRowsTo 10 = .ok (.istore_n 3, 1) := by decide +kernel
theorem dX7_countRowsTo_11 : decode cX7_countRowsTo 11 = .ok (.iload_n 3, 1) := by decide +kernel
theorem dX7_countRowsTo_12 : decode cX7_countRowsTo 12 = .ok (.iload_n 2, 1) := by decide +kernel
theorem dX7_countRowsTo_13 : decode cX7_countRowsTo 13 = .ok (.if_icmp .gt 16, 3) := by decide +kernel
theorem dX7_countRowsTo_16 : decode cX7_countRowsTo 16 = .ok (.aload_n 0, 1) := by decide +kernel
theorem dX7_countRowsTo_17 : decode cX7_countRowsTo 17 = .ok (.getfield 22, 3) := by decide +kernel
theorem dX7_countRowsTo_20 : decode cX7_countRowsTo 20 = .ok (.iload_n 3, 1) := by decide +kernel
theorem dX7_countRowsTo_21 : decode cX7_countRowsTo 21 = .ok (.iconst 0, 1) := by decide +kernel
theorem dX7_countRowsTo_22 : decode cX7_countRowsTo 22 = .ok (.iastore, 1) := by decide +kernel
theorem dX7_countRowsTo_23 : decode cX7_countRowsTo 23 = .ok (.iinc 3 1, 3) := by decide +kernel
theorem dX7_countRowsTo_26 : decode cX7_countRowsTo 26 = .ok (.goto (-15), 3) := by decide +kernel
theorem dX7_countRowsTo_29 : decode cX7_countRowsTo 29 = .ok (.aload_n 0, 1) := by decide +kernel
theorem dX7_countRowsTo_30 : decode cX7_countRowsTo 30 = .ok (.getfield 22, 3) := by decide +kernel
theorem dX7_countRowsTo_33 : decode cX7_countRowsTo 33 = .ok (.iconst 0, 1) := by decide +kernel
theorem dX7_countRowsTo_34 : decode cX7_countRowsTo 34 = .ok (.iconst 1, 1) := by decide +kernel
theorem dX7_countRowsTo_35 : decode cX7_countRowsTo 35 = .ok (.iastore, 1) := by decide +kernel
theorem dX7_countRowsTo_36 : decode cX7_countRowsTo 36 = .ok (.iconst 0, 1) := by decide +kernel
theorem dX7_countRowsTo_37 : decode cX7_countRowsTo 37 = .ok (.istore_n 3, 1) := by decide +kernel
theorem dX7_countRowsTo_38 : decode cX7_countRowsTo 38 = .ok (.iload_n 3, 1) := by decide +kernel
theorem dX7_countRowsTo_39 : decode cX7_countRowsTo 39 = .ok (.iload_n 2, 1) := by decide +kernel
theorem dX7_countRowsTo_40 : decode cX7_countRowsTo 40 = .ok (.if_icmp .ge 24, 3) := by decide +kernel
theorem dX7_countRowsTo_43 : decode cX7_countRowsTo 43 = .ok (.aload_n 0, 1) := by decide +kernel
theorem dX7_countRowsTo_44 : decode cX7_countRowsTo 44 = .ok (.getfield 22, 3) := by decide +kernel
theorem dX7_countRowsTo_47 : decode cX7_countRowsTo 47 = .ok (.iload_n 3, 1) := by decide +kernel
theorem dX7_countRowsTo_48 : decode cX7_countRowsTo 48 = .ok (.iaload, 1) := by decide +kernel
theorem dX7_countRowsTo_49 : decode cX7_countRowsTo 49 = .ok (.ifCond .eq 9, 3) := by decide +kernel
theorem dX7_countRowsTo_52 : decode cX7_countRowsTo 52 = .ok (.aload_n 0, 1) := by decide +kernel
theorem dX7_countRowsTo_53 : decode cX7_countRowsTo 53 = .ok (.aload_n 1, 1) := by decide +kernel
theorem dX7_countRowsTo_54 : decode cX7_countRowsTo 54 = .ok (.iload_n 3, 1) := by decide +kernel
theorem dX7_countRowsTo_55 : decode cX7_countRowsTo 55 = .ok (.invokevirtual 45, 3) := by decide +kernel
theorem dX7_countRowsTo_58 : decode cX7_countRowsTo 58 = .ok (.iinc 3 1, 3) := by decide +kernel
theorem dX7_countRowsTo_61 : decode cX7_countRowsTo 61 = .ok (.goto (-23), 3) := by decide +kernel
theorem dX7_countRowsTo_64 : decode cX7_countRowsTo 64 = .ok (.aload_n 0, 1) := by decide +kernel
theorem dX7_countRowsTo_65 : decode cX7_countRowsTo 65 = .ok (.getfield 22, 3) := by decide +kernel
theorem dX7_countRowsTo_68 : decode cX7_countRowsTo 68 = .ok (.iload_n 2, 1) := by decide +kernel
theorem dX7_countRowsTo_69 : decode cX7_countRowsTo 69 = .ok (.iaload, 1) := by decide +kernel
theorem dX7_countRowsTo_70 : decode cX7_countRowsTo 70 = .ok (.ireturn, 1) := by decide +kernel
theorem dX7_addOneStroke_0 : decode cX7_addOneStroke 0 = .ok (.iconst 0, 1) := by decide +kernel
theorem dX7_addOneStroke_1 : decode cX7_addOneStroke 1 = .ok (.istore_n 3, 1) := by decide +kernel
theorem dX7_addOneStroke_2 : decode cX7_addOneStroke 2 = .ok (.iload_n 3, 1) := by decide +kernel
theorem dX7_addOneStroke_3 : decode cX7_addOneStroke 3 = .ok (.aload_n 1, 1) := by decide +kernel
theorem dX7_addOneStroke_4 : decode cX7_addOneStroke 4 = .ok (.getfield 40, 3) := by decide +kernel
theorem dX7_addOneStroke_7 : decode cX7_addOneStroke 7 = .ok (.if_icmp .ge 49, 3) := by decide +kernel
theorem dX7_addOneStroke_10 : decode cX7_addOneStroke 10 = .ok (.iload_n 2, 1) := by decide +kernel
theorem dX7_addOneStroke_11 : decode cX7_addOneStroke 11 = .ok (.iload_n 3, 1) := by decide +kernel
theorem dX7_addOneStroke_12 : decode cX7_addOneStroke 12 = .ok (.ishr, 1) := by decide +kernel
theorem dX7_addOneStroke_13 : decode cX7_addOneStroke 13 = .ok (.iconst 1, 1) := by decide +kernel
theorem dX7_addOneStroke_14 : decode cX7_addOneStroke 14 = .ok (.iand, 1) := by decide +kernel
theorem dX7_addOneStroke_15 : decode cX7_addOneStroke 15 = .ok (.ifCond .ne 35, 3) := by decide +kernel
theorem dX7_addOneStroke_18 : decode cX7_addOneStroke 18 = .ok (.aload_n 1, 1) := by decide +kernel
theorem dX7_addOneStroke_19 : decode cX7_addOneStroke 19 = .ok (.getfield 49, 3) := by decide +kernel
theorem dX7_addOneStroke_22 : decode cX7_addOneStroke 22 = .ok (.iload_n 3, 1) := by decide +kernel
theorem dX7_addOneStroke_23 : decode cX7_addOneStroke 23 = .ok (.iaload, 1) := by decide +kernel
theorem dX7_addOneStroke_24 : decode cX7_addOneStroke 24 = .ok (.iload_n 2, 1) := by decide +kernel
theorem dX7_addOneStroke_25 : decode cX7_addOneStroke 25 = .ok (.iconst (-1), 1) := by decide +kernel
theorem dX7_addOneStroke_26 : decode cX7_addOneStroke 26 = .ok (.ixor, 1) := by decide +kernel
theorem dX7_addOneStroke_27 : decode cX7_addOneStroke 27 = .ok (.iand, 1) := by decide +kernel
theorem dX7_addOneStroke_28 : decode cX7_addOneStroke 28 = .ok (.ifCond .ne 22, 3) := by decide +kernel
theorem dX7_addOneStroke_31 : decode cX7_addOneStroke 31 = .ok (.aload_n 0, 1) := by decide +kernel
theorem dX7_addOneStroke_32 : decode cX7_addOneStroke 32 = .ok (.getfield 22, 3) := by decide +kernel
theorem dX7_addOneStroke_35 : decode cX7_addOneStroke 35 = .ok (.iload_n 2, 1) := by decide +kernel
theorem dX7_addOneStroke_36 : decode cX7_addOneStroke 36 = .ok (.iconst 1, 1) := by decide +kernel
theorem dX7_addOneStroke_37 : decode cX7_addOneStroke 37 = .ok (.iload_n 3, 1) := by decide +kernel
theorem dX7_addOneStroke_38 : decode cX7_addOneStroke 38 = .ok (.ishl, 1) := by decide +kernel
theorem dX7_addOneStroke_39 : decode cX7_addOneStroke 39 = .ok (.ior, 1) := by decide +kernel
theorem dX7_addOneStroke_40 : decode cX7_addOneStroke 40 = .ok (.dup2, 1) := by decide +kernel
theorem dX7_addOneStroke_41 : decode cX7_addOneStroke 41 = .ok (.iaload, 1) := by decide +kernel
theorem dX7_addOneStroke_42 : decode cX7_addOneStroke 42 = .ok (.aload_n 0, 1) := by decide +kernel
theorem dX7_addOneStroke_43 : decode cX7_addOneStroke 43 = .ok (.getfield 22, 3) := by decide +kernel
theorem dX7_addOneStroke_46 : decode cX7_addOneStroke 46 = .ok (.iload_n 2, 1) := by decide +kernel
theorem dX7_addOneStroke_47 : decode cX7_addOneStroke 47 = .ok (.iaload, 1) := by decide +kernel
theorem dX7_addOneStroke_48 : decode cX7_addOneStroke 48 = .ok (.iadd, 1) := by decide +kernel
theorem dX7_addOneStroke_49 : decode cX7_addOneStroke 49 = .ok (.iastore, 1) := by decide +kernel
theorem dX7_addOneStroke_50 : decode cX7_addOneStroke 50 = .ok (.iinc 3 1, 3) := by decide +kernel
theorem dX7_addOneStroke_53 : decode cX7_addOneStroke 53 = .ok (.goto (-51), 3) := by decide +kernel
theorem dX7_addOneStroke_56 : decode cX7_addOneStroke 56 = .ok (.return_, 1) := by decide +kernel
theorem dX7_refreshDetail_0 : decode cX7_refreshDetail 0 = .ok (.aload_n 0, 1) := by decide +kernel
theorem dX7_refreshDetail_1 : decode cX7_refreshDetail 1 = .ok (.aload_n 1, 1) := by decide +kernel
theorem dX7_refreshDetail_2 : decode cX7_refreshDetail 2 = .ok (.invokevirtual 52, 3) := by decide +kernel
theorem dX7_refreshDetail_5 : decode cX7_refreshDetail 5 = .ok (.aload_n 0, 1) := by decide +kernel
theorem dX7_refreshDetail_6 : decode cX7_refreshDetail 6 = .ok (.getfield 15, 3) := by decide +kernel
theorem dX7_refreshDetail_9 : decode cX7_refreshDetail 9 = .ok (.ifCond .ne 4, 3) := by decide +kernel
theorem dX7_refreshDetail_12 : decode cX7_refreshDetail 12 = .ok (.return_, 1) := by decide +kernel
theorem dX7_refreshDetail_13 : decode cX7_refreshDetail 13 = .ok (.aload_n 0, 1) := by decide +kernel
theorem dX7_refreshDetail_14 : decode cX7_refreshDetail 14 = .ok (.iconst 0, 1) := by decide +kernel
theorem dX7_refreshDetail_15 : decode cX7_refreshDetail 15 = .ok (.putfield 15, 3) := by decide +kernel
theorem dX7_refreshDetail_18 : decode cX7_refreshDetail 18 = .ok (.iconst 0, 1) := by decide +kernel
theorem dX7_refreshDetail_19 : decode cX7_refreshDetail 19 = .ok (.istore_n 2, 1) := by decide +kernel
theorem dX7_refreshDetail_20 : decode cX7_refreshDetail 20 = .ok (.iload_n 2, 1) := by decide +kernel
theorem dX7_refreshDetail_21 : decode cX7_refreshDetail 21 = .ok (.aload_n 0, 1) := by decide +kernel
theorem dX7_refreshDetail_22 : decode cX7_refreshDetail 22 = .ok (.getfield 29, 3) := by decide +kernel
theorem dX7_refreshDetail_25 : decode cX7_refreshDetail 25 = .ok (.arraylength, 1) := by decide +kernel
theorem dX7_refreshDetail_26 : decode cX7_refreshDetail 26 = .ok (.if_icmp .ge 16, 3) := by decide +kernel
theorem dX7_refreshDetail_29 : decode cX7_refreshDetail 29 = .ok (.aload_n 0, 1) := by decide +kernel
theorem dX7_refreshDetail_30 : decode cX7_refreshDetail 30 = .ok (.getfield 29, 3) := by decide +kernel
theorem dX7_refreshDetail_33 : decode cX7_refreshDetail 33 = .ok (.iload_n 2, 1) := by decide +kernel
theorem dX7_refreshDetail_34 : decode cX7_refreshDetail 34 = .ok (.iconst 0, 1) := by decide +kernel
theorem dX7_refreshDetail_35 : decode cX7_refreshDetail 35 = .ok (.iastore, 1) := by decide +kernel
theorem dX7_refreshDetail_36 : decode cX7_refreshDetail 36 = .ok (.iinc 2 1, 3) := by decide +kernel
theorem dX7_refreshDetail_39 : decode cX7_refreshDetail 39 = .ok (.goto (-19), 3) := by decide +kernel
theorem dX7_refreshDetail_42 : decode cX7_refreshDetail 42 = .ok (.iconst 0, 1) := by decide +kernel
theorem dX7_refreshDetail_43 : decode cX7_refreshDetail 43 = .ok (.istore_n 2, 1) := by decide +kernel
theorem dX7_refreshDetail_44 : decode cX7_refreshDetail 44 = .ok (.iload_n 2, 1) := by decide +kernel
theorem dX7_refreshDetail_45 : decode cX7_refreshDetail 45 = .ok (.aload_n 0, 1) := by decide +kernel
theorem dX7_refreshDetail_46 : decode cX7_refreshDetail 46 = .ok (.getfield 32, 3) := by decide +kernel
theorem dX7_refreshDetail_49 : decode cX7_refreshDetail 49 = .ok (.arraylength, 1) := by decide +kernel
theorem dX7_refreshDetail_50 : decode cX7_refreshDetail 50 = .ok (.if_icmp .ge 16, 3) := by decide +kernel
theorem dX7_refreshDetail_53 : decode cX7_refreshDetail 53 = .ok (.aload_n 0, 1) := by decide +kernel
theorem dX7_refreshDetail_54 : decode cX7_refreshDetail 54 = .ok (.getfield 32, 3) := by decide +kernel
theorem dX7_refreshDetail_57 : decode cX7_refreshDetail 57 = .ok (.iload_n 2, 1) := by decide +kernel
theorem dX7_refreshDetail_58 : decode cX7_refreshDetail 58 = .ok (.lconst 0, 1) := by decide +kernel
theorem dX7_refreshDetail_59 : decode cX7_refreshDetail 59 = .ok (.lastore, 1) := by decide +kernel
theorem dX7_refreshDetail_60 : decode cX7_refreshDetail 60 = .ok (.iinc 2 1, 3) := by decide +kernel
theorem dX7_refreshDetail_63 : decode cX7_refreshDetail 63 = .ok (.goto (-19), 3) := by decide +kernel
theorem dX7_refreshDetail_66 : decode cX7_refreshDetail 66 = .ok (.iconst 1, 1) := by decide +kernel
theorem dX7_refreshDetail_67 : decode cX7_refreshDetail 67 = .ok (.aload_n 1, 1) := by decide +kernel
theorem dX7_refreshDetail_68 : decode cX7_refreshDetail 68 = .ok (.getfield 40, 3) := by decide +kernel
theorem dX7_refreshDetail_71 : decode cX7_refreshDetail 71 = .ok (.ishl, 1) := by decide +kernel
theorem dX7_refreshDetail_72 : decode cX7_refreshDetail 72 = .ok (.iconst 1, 1) := by decide +kernel
theorem dX7_refreshDetail_73 : decode cX7_refreshDetail 73 = .ok (.isub, 1) := by decide +kernel
theorem dX7_refreshDetail_74 : decode cX7_refreshDetail 74 = .ok (.istore_n 2, 1) := by decide +kernel
theorem dX7_refreshDetail_75 : decode cX7_refreshDetail 75 = .ok (.aload_n 0, 1) := by decide +kernel
theorem dX7_refreshDetail_76 : decode cX7_refreshDetail 76 = .ok (.getfield 26, 3) := by decide +kernel
theorem dX7_refreshDetail_79 : decode cX7_refreshDetail 79 = .ok (.iload_n 2, 1) := by decide +kernel
theorem dX7_refreshDetail_80 : decode cX7_refreshDetail 80 = .ok (.iconst 1, 1) := by decide +kernel
theorem dX7_refreshDetail_81 : decode cX7_refreshDetail 81 = .ok (.iastore, 1) := by decide +kernel
theorem dX7_refreshDetail_82 : decode cX7_refreshDetail 82 = .ok (.iload_n 2, 1) := by decide +kernel
theorem dX7_refreshDetail_83 : decode cX7_refreshDetail 83 = .ok (.iconst 1, 1) := by decide +kernel
theorem dX7_refreshDetail_84 : decode cX7_refreshDetail 84 = .ok (.isub, 1) := by decide +kernel
theorem dX7_refreshDetail_85 : decode cX7_refreshDetail 85 = .ok (.istore_n 3, 1) := by decide +kernel
theorem dX7_refreshDetail_86 : decode cX7_refreshDetail 86 = .ok (.iload_n 3, 1) := by decide +kernel
theorem dX7_refreshDetail_87 : decode cX7_refreshDetail 87 = .ok (.ifCond .lt 31, 3) := by decide +kernel
theorem dX7_refreshDetail_90 : decode cX7_refreshDetail 90 = .ok (.aload_n 0, 1) := by decide +kernel
theorem dX7_refreshDetail_91 : decode cX7_refreshDetail 91 = .ok (.getfield 26, 3) := by decide +kernel
theorem dX7_refreshDetail_94 : decode cX7_refreshDetail 94 = .ok (.iload_n 3, 1) := by decide +kernel
theorem dX7_refreshDetail_95 : decode cX7_refreshDetail 95 = .ok (.iconst 0, 1) := by decide +kernel
theorem dX7_refreshDetail_96 : decode cX7_refreshDetail 96 = .ok (.iastore, 1) := by decide +kernel
theorem dX7_refreshDetail_97 : decode cX7_refreshDetail 97 = .ok (.aload_n 0, 1) := by decide +kernel
theorem dX7_refreshDetail_98 : decode cX7_refreshDetail 98 = .ok (.getfield 22, 3) := by decide +kernel
theorem dX7_refreshDetail_101 : decode cX7_refreshDetail 101 = .ok (.iload_n 3, 1) := by decide +kernel
theorem dX7_refreshDetail_102 : decode cX7_refreshDetail 102 = .ok (.iaload, 1) := by decide +kernel
theorem dX7_refreshDetail_103 : decode cX7_refreshDetail 103 = .ok (.ifCond .eq 9, 3) := by decide +kernel
theorem dX7_refreshDetail_106 : decode cX7_refreshDetail 106 = .ok (.aload_n 0, 1) := by decide +kernel
theorem dX7_refreshDetail_107 : decode cX7_refreshDetail 107 = .ok (.aload_n 1, 1) := by decide +kernel
theorem dX7_refreshDetail_108 : decode cX7_refreshDetail 108 = .ok (.iload_n 3, 1) := by decide +kernel
theorem dX7_refreshDetail_109 : decode cX7_refreshDetail 109 = .ok (.invokevirtual 56, 3) := by decide +kernel
theorem dX7_refreshDetail_112 : decode cX7_refreshDetail 112 = .ok (.iinc 3 (-1), 3) := by decide +kernel
theorem dX7_refreshDetail_115 : decode cX7_refreshDetail 115 = .ok (.goto (-29), 3) := by decide +kernel
theorem dX7_refreshDetail_118 : decode cX7_refreshDetail 118 = .ok (.return_, 1) := by decide +kernel
theorem dX7_countFrom_0 : decode cX7_countFrom 0 = .ok (.iconst 0, 1) := by decide +kernel
theorem dX7_countFrom_1 : decode cX7_countFrom 1 = .ok (.istore_n 3, 1) := by decide +kernel
theorem dX7_countFrom_2 : decode cX7_countFrom 2 = .ok (.iload_n 3, 1) := by decide +kernel
theorem dX7_countFrom_3 : decode cX7_countFrom 3 = .ok (.aload_n 1, 1) := by decide +kernel
theorem dX7_countFrom_4 : decode cX7_countFrom 4 = .ok (.getfield 40, 3) := by decide +kernel
theorem dX7_countFrom_7 : decode cX7_countFrom 7 = .ok (.if_icmp .ge 90, 3) := by decide +kernel
theorem dX7_countFrom_10 : decode cX7_countFrom 10 = .ok (.iload_n 2, 1) := by decide +kernel
theorem dX7_countFrom_11 : decode cX7_countFrom 11 = .ok (.iload_n 3, 1) := by decide +kernel
theorem dX7_countFrom_12 : decode cX7_countFrom 12 = .ok (.ishr, 1) := by decide +kernel
theorem dX7_countFrom_13 : decode cX7_countFrom 13 = .ok (.iconst 1, 1) := by decide +kernel
theorem dX7_countFrom_14 : decode cX7_countFrom 14 = .ok (.iand, 1) := by decide +kernel
theorem dX7_countFrom_15 : decode cX7_countFrom 15 = .ok (.ifCond .ne 76, 3) := by decide +kernel
theorem dX7_countFrom_18 : decode cX7_countFrom 18 = .ok (.aload_n 1, 1) := by decide +kernel
theorem dX7_countFrom_19 : decode cX7_countFrom 19 = .ok (.getfield 49, 3) := by decide +kernel
theorem dX7_countFrom_22 : decode cX7_countFrom 22 = .ok (.iload_n 3, 1) := by decide +kernel
theorem dX7_countFrom_23 : decode cX7_countFrom 23 = .ok (.iaload, 1) := by decide +kernel
theorem dX7_countFrom_24 : decode cX7_countFrom 24 = .ok (.iload_n 2, 1) := by decide +kernel
theorem dX7_countFrom_25 : decode cX7_countFrom 25 = .ok (.iconst (-1), 1) := by decide +kernel
theorem dX7_countFrom_26 : decode cX7_countFrom 26 = .ok (.ixor, 1) := by decide +kernel
theorem dX7_countFrom_27 : decode cX7_countFrom 27 = .ok (.iand, 1) := by decide +kernel
theorem dX7_countFrom_28 : decode cX7_countFrom 28 = .ok (.ifCond .ne 63, 3) := by decide +kernel
theorem dX7_countFrom_31 : decode cX7_countFrom 31 = .ok (.aload_n 0, 1) := by decide +kernel
theorem dX7_countFrom_32 : decode cX7_countFrom 32 = .ok (.getfield 26, 3) := by decide +kernel
theorem dX7_countFrom_35 : decode cX7_countFrom 35 = .ok (.iload_n 2, 1) := by decide +kernel
theorem dX7_countFrom_36 : decode cX7_countFrom 36 = .ok (.iconst 1, 1) := by decide +kernel
theorem dX7_countFrom_37 : decode cX7_countFrom 37 = .ok (.iload_n 3, 1) := by decide +kernel
theorem dX7_countFrom_38 : decode cX7_countFrom 38 = .ok (.ishl, 1) := by decide +kernel
theorem dX7_countFrom_39 : decode cX7_countFrom 39 = .ok (.ior, 1) := by decide +kernel
theorem dX7_countFrom_40 : decode cX7_countFrom 40 = .ok (.iaload, 1) := by decide +kernel
theorem dX7_countFrom_41 : decode cX7_countFrom 41 = .ok (.istore 4, 2) := by decide +kernel
theorem dX7_countFrom_43 : decode cX7_countFrom 43 = .ok (.aload_n 0, 1) := by decide +kernel
theorem dX7_countFrom_44 : decode cX7_countFrom 44 = .ok (.getfield 26, 3) := by decide +kernel
theorem dX7_countFrom_47 : decode cX7_countFrom 47 = .ok (.iload_n 2, 1) := by decide +kernel
theorem dX7_countFrom_48 : decode cX7_countFrom 48 = .ok (.dup2, 1) := by decide +kernel
theorem dX7_countFrom_49 : decode cX7_countFrom 49 = .ok (.iaload, 1) := by decide +kernel
theorem dX7_countFrom_50 : decode cX7_countFrom 50 = .ok (.iload 4, 2) := by decide +kernel
theorem dX7_countFrom_52 : decode cX7_countFrom 52 = .ok (.iadd, 1) := by decide +kernel
theorem dX7_countFrom_53 : decode cX7_countFrom 53 = .ok (.iastore, 1) := by decide +kernel
theorem dX7_countFrom_54 : decode cX7_countFrom 54 = .ok (.aload_n 0, 1) := by decide +kernel
theorem dX7_countFrom_55 : decode cX7_countFrom 55 = .ok (.getfield 22, 3) := by decide +kernel
theorem dX7_countFrom_58 : decode cX7_countFrom 58 = .ok (.iload_n 2, 1) := by decide +kernel
theorem dX7_countFrom_59 : decode cX7_countFrom 59 = .ok (.iaload, 1) := by decide +kernel
theorem dX7_countFrom_60 : decode cX7_countFrom 60 = .ok (.iload 4, 2) := by decide +kernel
theorem dX7_countFrom_62 : decode cX7_countFrom 62 = .ok (.imul, 1) := by decide +kernel
theorem dX7_countFrom_63 : decode cX7_countFrom 63 = .ok (.istore 5, 2) := by decide +kernel
theorem dX7_countFrom_65 : decode cX7_countFrom 65 = .ok (.aload_n 0, 1) := by decide +kernel
theorem dX7_countFrom_66 : decode cX7_countFrom 66 = .ok (.getfield 32, 3) := by decide +kernel
theorem dX7_countFrom_69 : decode cX7_countFrom 69 = .ok (.iload_n 3, 1) := by decide +kernel
theorem dX7_countFrom_70 : decode cX7_countFrom 70 = .ok (.dup2, 1) := by decide +kernel
theorem dX7_countFrom_71 : decode cX7_countFrom 71 = .ok (.laload, 1) := by decide +kernel
theorem dX7_countFrom_72 : decode cX7_countFrom 72 = .ok (.iload_n 2, 1) := by decide +kernel
theorem dX7_countFrom_73 : decode cX7_countFrom 73 = .ok (.invokestatic 59, 3) := by decide +kernel
theorem dX7_countFrom_76 : decode cX7_countFrom 76 = .ok (.i2l, 1) := by decide +kernel
theorem dX7_countFrom_77 : decode cX7_countFrom 77 = .ok (.iload 5, 2) := by decide +kernel
theorem dX7_countFrom_79 : decode cX7_countFrom 79 = .ok (.i2l, 1) := by decide +kernel
theorem dX7_countFrom_80 : decode cX7_countFrom 80 = .ok (.lmul, 1) := by decide +kernel
theorem dX7_countFrom_81 : decode cX7_countFrom 81 = .ok (.ladd, 1) := by decide +kernel
theorem dX7_countFrom_82 : decode cX7_countFrom 82 = .ok (.lastore, 1) := by decide +kernel
theorem dX7_countFrom_83 : decode cX7_countFrom 83 = .ok (.aload_n 0, 1) := by decide +kernel
theorem dX7_countFrom_84 : decode cX7_countFrom 84 = .ok (.iload_n 2, 1) := by decide +kernel
theorem dX7_countFrom_85 : decode cX7_countFrom 85 = .ok (.iload_n 3, 1) := by decide +kernel
theorem dX7_countFrom_86 : decode cX7_countFrom 86 = .ok (.iload 5, 2) := by decide +kernel
theorem dX7_countFrom_88 : decode cX7_countFrom 88 = .ok (.invokevirtual 65, 3) := by decide +kernel
theorem dX7_countFrom_91 : decode cX7_countFrom 91 = .ok (.iinc 3 1, 3) := by decide +kernel
theorem dX7_countFrom_94 : decode cX7_countFrom 94 = .ok (.goto (-92), 3) := by decide +kernel
theorem dX7_countFrom_97 : decode cX7_countFrom 97 = .ok (.return_, 1) := by decide +kernel
theorem dX7_addEarlier_0 : decode cX7_addEarlier 0 = .ok (.iconst 0, 1) := by decide +kernel
theorem dX7_addEarlier_1 : decode cX7_addEarlier 1 = .ok (.istore 4, 2) := by decide +kernel
theorem dX7_addEarlier_3 : decode cX7_addEarlier 3 = .ok (.iload 4, 2) := by decide +kernel
theorem dX7_addEarlier_5 : decode cX7_addEarlier 5 = .ok (.bipush 12, 2) := by decide +kernel
theorem dX7_addEarlier_7 : decode cX7_addEarlier 7 = .ok (.if_icmp .ge 34, 3) := by decide +kernel
theorem dX7_addEarlier_10 : decode cX7_addEarlier 10 = .ok (.iload_n 1, 1) := by decide +kernel
theorem dX7_addEarlier_11 : decode cX7_addEarlier 11 = .ok (.iload 4, 2) := by decide +kernel
theorem dX7_addEarlier_13 : decode cX7_addEarlier 13 = .ok (.ishr, 1) := by decide +kernel
theorem dX7_addEarlier_14 : decode cX7_addEarlier 14 = .ok (.iconst 1, 1) := by decide +kernel
theorem dX7_addEarlier_15 : decode cX7_addEarlier 15 = .ok (.iand, 1) := by decide +kernel
theorem dX7_addEarlier_16 : decode cX7_addEarlier 16 = .ok (.ifCond .eq 19, 3) := by decide +kernel
theorem dX7_addEarlier_19 : decode cX7_addEarlier 19 = .ok (.aload_n 0, 1) := by decide +kernel
theorem dX7_addEarlier_20 : decode cX7_addEarlier 20 = .ok (.getfield 29, 3) := by decide +kernel
theorem dX7_addEarlier_23 : decode cX7_addEarlier 23 = .ok (.iload 4, 2) := by decide +kernel
theorem dX7_addEarlier_25 : decode cX7_addEarlier 25 = .ok (.bipush 12, 2) := by decide +kernel
theorem dX7_addEarlier_27 : decode cX7_addEarlier 27 = .ok (.imul, 1) := by decide +kernel
theorem dX7_addEarlier_28 : decode cX7_addEarlier 28 = .ok (.iload_n 2, 1) := by decide +kernel
theorem dX7_addEarlier_29 : decode cX7_addEarlier 29 = .ok (.iadd, 1) := by decide +kernel
theorem dX7_addEarlier_30 : decode cX7_addEarlier 30 = .ok (.dup2, 1) := by decide +kernel
theorem dX7_addEarlier_31 : decode cX7_addEarlier 31 = .ok (.iaload, 1) := by decide +kernel
theorem dX7_addEarlier_32 : decode cX7_addEarlier 32 = .ok (.iload_n 3, 1) := by decide +kernel
theorem dX7_addEarlier_33 : decode cX7_addEarlier 33 = .ok (.iadd, 1) := by decide +kernel
theorem dX7_addEarlier_34 : decode cX7_addEarlier 34 = .ok (.iastore, 1) := by decide +kernel
theorem dX7_addEarlier_35 : decode cX7_addEarlier 35 = .ok (.iinc 4 1, 3) := by decide +kernel
theorem dX7_addEarlier_38 : decode cX7_addEarlier 38 = .ok (.goto (-35), 3) := by decide +kernel
theorem dX7_addEarlier_41 : decode cX7_addEarlier 41 = .ok (.return_, 1) := by decide +kernel
theorem dX7_comesAhead_0 : decode cX7_comesAhead 0 = .ok (.aload_n 0, 1) := by decide +kernel
theorem dX7_comesAhead_1 : decode cX7_comesAhead 1 = .ok (.getfield 29, 3) := by decide +kernel
theorem dX7_comesAhead_4 : decode cX7_comesAhead 4 = .ok (.iload_n 1, 1) := by decide +kernel
theorem dX7_comesAhead_5 : decode cX7_comesAhead 5 = .ok (.bipush 12, 2) := by decide +kernel
theorem dX7_comesAhead_7 : decode cX7_comesAhead 7 = .ok (.imul, 1) := by decide +kernel
theorem dX7_comesAhead_8 : decode cX7_comesAhead 8 = .ok (.iload_n 2, 1) := by decide +kernel
theorem dX7_comesAhead_9 : decode cX7_comesAhead 9 = .ok (.iadd, 1) := by decide +kernel
theorem dX7_comesAhead_10 : decode cX7_comesAhead 10 = .ok (.iaload, 1) := by decide +kernel
theorem dX7_comesAhead_11 : decode cX7_comesAhead 11 = .ok (.ireturn, 1) := by decide +kernel
theorem dX7_asked_0 : decode cX7_asked 0 = .ok (.aload_n 0, 1) := by decide +kernel
theorem dX7_asked_1 : decode cX7_asked 1 = .ok (.iload_n 1, 1) := by decide +kernel
theorem dX7_asked_2 : decode cX7_asked 2 = .ok (.iload_n 2, 1) := by decide +kernel
theorem dX7_asked_3 : decode cX7_asked 3 = .ok (.invokevirtual 69, 3) := by decide +kernel
theorem dX7_asked_6 : decode cX7_asked 6 = .ok (.aload_n 0, 1) := by decide +kernel
theorem dX7_asked_7 : decode cX7_asked 7 = .ok (.iload_n 2, 1) := by decide +kernel
theorem dX7_asked_8 : decode cX7_asked 8 = .ok (.iload_n 1, 1) := by decide +kernel
theorem dX7_asked_9 : decode cX7_asked 9 = .ok (.invokevirtual 69, 3) := by decide +kernel
theorem dX7_asked_12 : decode cX7_asked 12 = .ok (.invokestatic 73, 3) := by decide +kernel
theorem dX7_asked_15 : decode cX7_asked 15 = .ok (.ireturn, 1) := by decide +kernel
theorem dX7_bestToAsk_0 : decode cX7_bestToAsk 0 = .ok (.iconst (-1), 1) := by decide +kernel
theorem dX7_bestToAsk_1 : decode cX7_bestToAsk 1 = .ok (.istore_n 2, 1) := by decide +kernel
theorem dX7_bestToAsk_2 : decode cX7_bestToAsk 2 = .ok (.iconst 0, 1) := by decide +kernel
theorem dX7_bestToAsk_3 : decode cX7_bestToAsk 3 = .ok (.istore_n 3, 1) := by decide +kernel
theorem dX7_bestToAsk_4 : decode cX7_bestToAsk 4 = .ok (.iconst 0, 1) := by decide +kernel
theorem dX7_bestToAsk_5 : decode cX7_bestToAsk 5 = .ok (.istore 4, 2) := by decide +kernel
theorem dX7_bestToAsk_7 : decode cX7_bestToAsk 7 = .ok (.iload 4, 2) := by decide +kernel
theorem dX7_bestToAsk_9 : decode cX7_bestToAsk 9 = .ok (.aload_n 1, 1) := by decide +kernel
theorem dX7_bestToAsk_10 : decode cX7_bestToAsk 10 = .ok (.getfield 40, 3) := by decide +kernel
theorem dX7_bestToAsk_13 : decode cX7_bestToAsk 13 = .ok (.if_icmp .ge 110, 3) := by decide +kernel
theorem dX7_bestToAsk_16 : decode cX7_bestToAsk 16 = .ok (.iload 4, 2) := by decide +kernel
theorem dX7_bestToAsk_18 : decode cX7_bestToAsk 18 = .ok (.iconst 1, 1) := by decide +kernel
theorem dX7_bestToAsk_19 : decode cX7_bestToAsk 19 = .ok (.iadd, 1) := by decide +kernel
theorem dX7_bestToAsk_20 : decode cX7_bestToAsk 20 = .ok (.istore 5, 2) := by decide +kernel
theorem dX7_bestToAsk_22 : decode cX7_bestToAsk 22 = .ok (.iload 5, 2) := by decide +kernel
theorem dX7_bestToAsk_24 : decode cX7_bestToAsk 24 = .ok (.aload_n 1, 1) := by decide +kernel
theorem dX7_bestToAsk_25 : decode cX7_bestToAsk 25 = .ok (.getfield 40, 3) := by decide +kernel
theorem dX7_bestToAsk_28 : decode cX7_bestToAsk 28 = .ok (.if_icmp .ge 89, 3) := by decide +kernel
theorem dX7_bestToAsk_31 : decode cX7_bestToAsk 31 = .ok (.aload_n 1, 1) := by decide +kernel
theorem dX7_bestToAsk_32 : decode cX7_bestToAsk 32 = .ok (.iload 4, 2) := by decide +kernel
theorem dX7_bestToAsk_34 : decode cX7_bestToAsk 34 = .ok (.iload 5, 2) := by decide +kernel
theorem dX7_bestToAsk_36 : decode cX7_bestToAsk 36 = .ok (.invokevirtual 78, 3) := by decide +kernel
theorem dX7_bestToAsk_39 : decode cX7_bestToAsk 39 = .ok (.ifCond .eq 29, 3) := by decide +kernel
theorem dX7_bestToAsk_42 : decode cX7_bestToAsk 42 = .ok (.aload_n 1, 1) := by decide +kernel
theorem dX7_bestToAsk_43 : decode cX7_bestToAsk 43 = .ok (.iload 4, 2) := by decide +kernel
theorem dX7_bestToAsk_45 : decode cX7_bestToAsk 45 = .ok (.iload 5, 2) := by decide +kernel
theorem dX7_bestToAsk_47 : decode cX7_bestToAsk 47 = .ok (.invokevirtual 82, 3) := by decide +kernel
theorem dX7_bestToAsk_50 : decode cX7_bestToAsk 50 = .ok (.ifCond .ne 18, 3) := by decide +kernel
theorem dX7_bestToAsk_53 : decode cX7_bestToAsk 53 = .ok (.aload_n 1, 1) := by decide +kernel
theorem dX7_bestToAsk_54 : decode cX7_bestToAsk 54 = .ok (.iload 5, 2) := by decide +kernel
theorem dX7_bestToAsk_56 : decode cX7_bestToAsk 56 = .ok (.iload 4, 2) := by decide +kernel
theorem dX7_bestToAsk_58 : decode cX7_bestToAsk 58 = .ok (.invokevirtual 82, 3) := by decide +kernel
theorem dX7_bestToAsk_61 : decode cX7_bestToAsk 61 = .ok (.ifCond .ne 7, 3) := by decide +kernel
theorem dX7_bestToAsk_64 : decode cX7_bestToAsk 64 = .ok (.iconst 1, 1) := by decide +kernel
theorem dX7_bestToAsk_65 : decode cX7_bestToAsk 65 = .ok (.goto 4, 3) := by decide +kernel
theorem dX7_bestToAsk_68 : decode cX7_bestToAsk 68 = .ok (.iconst 0, 1) := by decide +kernel
theorem dX7_bestToAsk_69 : decode cX7_bestToAsk 69 = .ok (.istore 6, 2) := by decide +kernel
theorem dX7_bestToAsk_71 : decode cX7_bestToAsk 71 = .ok (.iload 6, 2) := by decide +kernel
theorem dX7_bestToAsk_73 : decode cX7_bestToAsk 73 = .ok (.ifCond .eq 38, 3) := by decide +kernel
theorem dX7_bestToAsk_76 : decode cX7_bestToAsk 76 = .ok (.iload_n 2, 1) := by decide +kernel
theorem dX7_bestToAsk_77 : decode cX7_bestToAsk 77 = .ok (.iconst (-1), 1) := by decide +kernel
theorem dX7_bestToAsk_78 : decode cX7_bestToAsk 78 = .ok (.if_icmp .eq 15, 3) := by decide +kernel
theorem dX7_bestToAsk_81 : decode cX7_bestToAsk 81 = .ok (.aload_n 0, 1) := by decide +kernel
theorem dX7_bestToAsk_82 : decode cX7_bestToAsk 82 = .ok (.iload 4, 2) := by decide +kernel
theorem dX7_bestToAsk_84 : decode cX7_bestToAsk 84 = .ok (.iload 5, 2) := by decide +kernel
theorem dX7_bestToAsk_86 : decode cX7_bestToAsk 86 = .ok (.invokevirtual 85, 3) := by decide +kernel
theorem dX7_bestToAsk_89 : decode cX7_bestToAsk 89 = .ok (.iload_n 3, 1) := by decide +kernel
theorem dX7_bestToAsk_90 : decode cX7_bestToAsk 90 = .ok (.if_icmp .ge 21, 3) := by decide +kernel
theorem dX7_bestToAsk_93 : decode cX7_bestToAsk 93 = .ok (.iload 4, 2) := by decide +kernel
theorem dX7_bestToAsk_95 : decode cX7_bestToAsk 95 = .ok (.bipush 12, 2) := by decide +kernel
theorem dX7_bestToAsk_97 : decode cX7_bestToAsk 97 = .ok (.imul, 1) := by decide +kernel
theorem dX7_bestToAsk_98 : decode cX7_bestToAsk 98 = .ok (.iload 5, 2) := by decide +kernel
theorem dX7_bestToAsk_100 : decode cX7_bestToAsk 100 = .ok (.iadd, 1) := by decide +kernel
theorem dX7_bestToAsk_101 : decode cX7_bestToAsk 101 = .ok (.istore_n 2, 1) := by decide +kernel
theorem dX7_bestToAsk_102 : decode cX7_bestToAsk 102 = .ok (.aload_n 0, 1) := by decide +kernel
theorem dX7_bestToAsk_103 : decode cX7_bestToAsk 103 = .ok (.iload 4, 2) := by decide +kernel
theorem dX7_bestToAsk_105 : decode cX7_bestToAsk 105 = .ok (.iload 5, 2) := by decide +kernel
theorem dX7_bestToAsk_107 : decode cX7_bestToAsk 107 = .ok (.invokevirtual 85, 3) := by decide +kernel
theorem dX7_bestToAsk_110 : decode cX7_bestToAsk 110 = .ok (.istore_n 3, 1) := by decide +kernel
theorem dX7_bestToAsk_111 : decode cX7_bestToAsk 111 = .ok (.iinc 5 1, 3) := by decide +kernel
theorem dX7_bestToAsk_114 : decode cX7_bestToAsk 114 = .ok (.goto (-92), 3) := by decide +kernel
theorem dX7_bestToAsk_117 : decode cX7_bestToAsk 117 = .ok (.iinc 4 1, 3) := by decide +kernel
theorem dX7_bestToAsk_120 : decode cX7_bestToAsk 120 = .ok (.goto (-113), 3) := by decide +kernel
theorem dX7_bestToAsk_123 : decode cX7_bestToAsk 123 = .ok (.iload_n 2, 1) := by decide +kernel
theorem dX7_bestToAsk_124 : decode cX7_bestToAsk 124 = .ok (.ireturn, 1) := by decide +kernel
theorem dX7_meanPlace_0 : decode cX7_meanPlace 0 = .ok (.aload_n 0, 1) := by decide +kernel
theorem dX7_meanPlace_1 : decode cX7_meanPlace 1 = .ok (.getfield 18, 3) := by decide +kernel
theorem dX7_meanPlace_4 : decode cX7_meanPlace 4 = .ok (.ifCond .le 22, 3) := by decide +kernel
theorem dX7_meanPlace_7 : decode cX7_meanPlace 7 = .ok (.ldc2_w 88, 3) := by decide +kernel
theorem dX7_meanPlace_10 : decode cX7_meanPlace 10 = .ok (.aload_n 0, 1) := by decide +kernel
theorem dX7_meanPlace_11 : decode cX7_meanPlace 11 = .ok (.getfield 32, 3) := by decide +kernel
theorem dX7_meanPlace_14 : decode cX7_meanPlace 14 = .ok (.iload_n 1, 1) := by decide +kernel
theorem dX7_meanPlace_15 : decode cX7_meanPlace 15 = .ok (.laload, 1) := by decide +kernel
theorem dX7_meanPlace_16 : decode cX7_meanPlace 16 = .ok (.lmul, 1) := by decide +kernel
theorem dX7_meanPlace_17 : decode cX7_meanPlace 17 = .ok (.aload_n 0, 1) := by decide +kernel
theorem dX7_meanPlace_18 : decode cX7_meanPlace 18 = .ok (.getfield 18, 3) := by decide +kernel
theorem dX7_meanPlace_21 : decode cX7_meanPlace 21 = .ok (.i2l, 1) := by decide +kernel
theorem dX7_meanPlace_22 : decode cX7_meanPlace 22 = .ok (.ldiv, 1) := by decide +kernel
theorem dX7_meanPlace_23 : decode cX7_meanPlace 23 = .ok (.goto 4, 3) := by decide +kernel
theorem dX7_meanPlace_26 : decode cX7_meanPlace 26 = .ok (.lconst 0, 1) := by decide +kernel
theorem dX7_meanPlace_27 : decode cX7_meanPlace 27 = .ok (.lreturn, 1) := by decide +kernel
theorem dX7_countWays_0 : decode cX7_countWays 0 = .ok (.iconst 0, 1) := by decide +kernel
theorem dX7_countWays_1 : decode cX7_countWays 1 = .ok (.istore_n 2, 1) := by decide +kernel
theorem dX7_countWays_2 : decode cX7_countWays 2 = .ok (.iconst 1, 1) := by decide +kernel
theorem dX7_countWays_3 : decode cX7_countWays 3 = .ok (.aload_n 1, 1) := by decide +kernel
theorem dX7_countWays_4 : decode cX7_countWays 4 = .ok (.getfield 40, 3) := by decide +kernel
theorem dX7_countWays_7 : decode cX7_countWays 7 = .ok (.ishl, 1) := by decide +kernel
theorem dX7_countWays_8 : decode cX7_countWays 8 = .ok (.iconst 1, 1) := by decide +kernel
theorem dX7_countWays_9 : decode cX7_countWays 9 = .ok (.isub, 1) := by decide +kernel
theorem dX7_countWays_10 : decode cX7_countWays 10 = .ok (.istore_n 3, 1) := by decide +kernel
theorem dX7_countWays_11 : decode cX7_countWays 11 = .ok (.iconst 0, 1) := by decide +kernel
theorem dX7_countWays_12 : decode cX7_countWays 12 = .ok (.istore 4, 2) := by decide +kernel
theorem dX7_countWays_14 : decode cX7_countWays 14 = .ok (.iload 4, 2) := by decide +kernel
theorem dX7_countWays_16 : decode cX7_countWays 16 = .ok (.iload_n 3, 1) := by decide +kernel
theorem dX7_countWays_17 : decode cX7_countWays 17 = .ok (.if_icmp .gt 44, 3) := by decide +kernel
theorem dX7_countWays_20 : decode cX7_countWays 20 = .ok (.aload_n 0, 1) := by decide +kernel
theorem dX7_countWays_21 : decode cX7_countWays 21 = .ok (.getfield 22, 3) := by decide +kernel
theorem dX7_countWays_24 : decode cX7_countWays 24 = .ok (.iload 4, 2) := by decide +kernel
theorem dX7_countWays_26 : decode cX7_countWays 26 = .ok (.iaload, 1) := by decide +kernel
theorem dX7_countWays_27 : decode cX7_countWays 27 = .ok (.ifCond .eq 28, 3) := by decide +kernel
theorem dX7_countWays_30 : decode cX7_countWays 30 = .ok (.aload_n 1, 1) := by decide +kernel
theorem dX7_countWays_31 : decode cX7_countWays 31 = .ok (.getfield 90, 3) := by decide +kernel
theorem dX7_countWays_34 : decode cX7_countWays 34 = .ok (.iload 4, 2) := by decide +kernel
theorem dX7_countWays_36 : decode cX7_countWays 36 = .ok (.iconst (-1), 1) := by decide +kernel
theorem dX7_countWays_37 : decode cX7_countWays 37 = .ok (.ixor, 1) := by decide +kernel
theorem dX7_countWays_38 : decode cX7_countWays 38 = .ok (.iand, 1) := by decide +kernel
theorem dX7_countWays_39 : decode cX7_countWays 39 = .ok (.ifCond .ne 16, 3) := by decide +kernel
theorem dX7_countWays_42 : decode cX7_countWays 42 = .ok (.aload_n 1, 1) := by decide +kernel
theorem dX7_countWays_43 : decode cX7_countWays 43 = .ok (.getfield 93, 3) := by decide +kernel
theorem dX7_countWays_46 : decode cX7_countWays 46 = .ok (.iload 4, 2) := by decide +kernel
theorem dX7_countWays_48 : decode cX7_countWays 48 = .ok (.iand, 1) := by decide +kernel
theorem dX7_countWays_49 : decode cX7_countWays 49 = .ok (.ifCond .ne 6, 3) := by decide +kernel
theorem dX7_countWays_52 : decode cX7_countWays 52 = .ok (.iinc 2 1, 3) := by decide +kernel
theorem dX7_countWays_55 : decode cX7_countWays 55 = .ok (.iinc 4 1, 3) := by decide +kernel
theorem dX7_countWays_58 : decode cX7_countWays 58 = .ok (.goto (-44), 3) := by decide +kernel
theorem dX7_countWays_61 : decode cX7_countWays 61 = .ok (.iload_n 2, 1) := by decide +kernel
theorem dX7_countWays_62 : decode cX7_countWays 62 = .ok (.ireturn, 1) := by decide +kernel
theorem dX8_init_0 : decode cX8_init 0 = .ok (.aload_n 0, 1) := by decide +kernel
theorem dX8_init_1 : decode cX8_init 1 = .ok (.invokespecial 3, 3) := by decide +kernel
theorem dX8_init_4 : decode cX8_init 4 = .ok (.aload_n 0, 1) := by decide +kernel
theorem dX8_init_5 : decode cX8_init 5 = .ok (.iconst 0, 1) := by decide +kernel
theorem dX8_init_6 : decode cX8_init 6 = .ok (.putfield 9, 3) := by decide +kernel
theorem dX8_init_9 : decode cX8_init 9 = .ok (.aload_n 0, 1) := by decide +kernel
theorem dX8_init_10 : decode cX8_init 10 = .ok (.sipush 900, 3) := by decide +kernel
theorem dX8_init_13 : decode cX8_init 13 = .ok (.newarray .int, 2) := by decide +kernel
theorem dX8_init_15 : decode cX8_init 15 = .ok (.putfield 15, 3) := by decide +kernel
theorem dX8_init_18 : decode cX8_init 18 = .ok (.return_, 1) := by decide +kernel
theorem dX8_addInt_0 : decode cX8_addInt 0 = .ok (.bipush 24, 2) := by decide +kernel
theorem dX8_addInt_2 : decode cX8_addInt 2 = .ok (.istore_n 2, 1) := by decide +kernel
theorem dX8_addInt_3 : decode cX8_addInt 3 = .ok (.iload_n 2, 1) := by decide +kernel
theorem dX8_addInt_4 : decode cX8_addInt 4 = .ok (.ifCond .lt 35, 3) := by decide +kernel
theorem dX8_addInt_7 : decode cX8_addInt 7 = .ok (.aload_n 0, 1) := by decide +kernel
theorem dX8_addInt_8 : decode cX8_addInt 8 = .ok (.getfield 15, 3) := by decide +kernel
theorem dX8_addInt_11 : decode cX8_addInt 11 = .ok (.aload_n 0, 1) := by decide +kernel
theorem dX8_addInt_12 : decode cX8_addInt 12 = .ok (.getfield 9, 3) := by decide +kernel
theorem dX8_addInt_15 : decode cX8_addInt 15 = .ok (.iload_n 1, 1) := by decide +kernel
theorem dX8_addInt_16 : decode cX8_addInt 16 = .ok (.iload_n 2, 1) := by decide +kernel
theorem dX8_addInt_17 : decode cX8_addInt 17 = .ok (.ishr, 1) := by decide +kernel
theorem dX8_addInt_18 : decode cX8_addInt 18 = .ok (.sipush 255, 3) := by decide +kernel
theorem dX8_addInt_21 : decode cX8_addInt 21 = .ok (.iand, 1) := by decide +kernel
theorem dX8_addInt_22 : decode cX8_addInt 22 = .ok (.iastore, 1) := by decide +kernel
theorem dX8_addInt_23 : decode cX8_addInt 23 = .ok (.aload_n 0, 1) := by decide +kernel
theorem dX8_addInt_24 : decode cX8_addInt 24 = .ok (.dup, 1) := by decide +kernel
theorem dX8_addInt_25 : decode cX8_addInt 25 = .ok (.getfield 9, 3) := by decide +kernel
theorem dX8_addInt_28 : decode cX8_addInt 28 = .ok (.iconst 1, 1) := by decide +kernel
theorem dX8_addInt_29 : decode cX8_addInt 29 = .ok (.iadd, 1) := by decide +kernel
theorem dX8_addInt_30 : decode cX8_addInt 30 = .ok (.putfield 9, 3) := by decide +kernel
theorem dX8_addInt_33 : decode cX8_addInt 33 = .ok (.iinc 2 (-8), 3) := by decide +kernel
theorem dX8_addInt_36 : decode cX8_addInt 36 = .ok (.goto (-33), 3) := by decide +kernel
theorem dX8_addInt_39 : decode cX8_addInt 39 = .ok (.return_, 1) := by decide +kernel
theorem dX9_init_0 : decode cX9_init 0 = .ok (.aload_n 0, 1) := by decide +kernel
theorem dX9_init_1 : decode cX9_init 1 = .ok (.invokespecial 1, 3) := by decide +kernel
theorem dX9_init_4 : decode cX9_init 4 = .ok (.aload_n 0, 1) := by decide +kernel
theorem dX9_init_5 : decode cX9_init 5 = .ok (.new 7, 3) := by decide +kernel
theorem dX9_init_8 : decode cX9_init 8 = .ok (.dup, 1) := by decide +kernel
theorem dX9_init_9 : decode cX9_init 9 = .ok (.invokespecial 9, 3) := by decide +kernel
theorem dX9_init_12 : decode cX9_init 12 = .ok (.putfield 10, 3) := by decide +kernel
theorem dX9_init_15 : decode cX9_init 15 = .ok (.aload_n 0, 1) := by decide +kernel
theorem dX9_init_16 : decode cX9_init 16 = .ok (.new 7, 3) := by decide +kernel
theorem dX9_init_19 : decode cX9_init 19 = .ok (.dup, 1) := by decide +kernel
theorem dX9_init_20 : decode cX9_init 20 = .ok (.invokespecial 9, 3) := by decide +kernel
theorem dX9_init_23 : decode cX9_init 23 = .ok (.putfield 16, 3) := by decide +kernel
theorem dX9_init_26 : decode cX9_init 26 = .ok (.aload_n 0, 1) := by decide +kernel
theorem dX9_init_27 : decode cX9_init 27 = .ok (.new 19, 3) := by decide +kernel
theorem dX9_init_30 : decode cX9_init 30 = .ok (.dup, 1) := by decide +kernel
theorem dX9_init_31 : decode cX9_init 31 = .ok (.invokespecial 21, 3) := by decide +kernel
theorem dX9_init_34 : decode cX9_init 34 = .ok (.putfield 22, 3) := by decide +kernel
theorem dX9_init_37 : decode cX9_init 37 = .ok (.aload_n 0, 1) := by decide +kernel
theorem dX9_init_38 : decode cX9_init 38 = .ok (.new 19, 3) := by decide +kernel
theorem dX9_init_41 : decode cX9_init 41 = .ok (.dup, 1) := by decide +kernel
theorem dX9_init_42 : decode cX9_init 42 = .ok (.invokespecial 21, 3) := by decide +kernel
theorem dX9_init_45 : decode cX9_init 45 = .ok (.putfield 26, 3) := by decide +kernel
theorem dX9_init_48 : decode cX9_init 48 = .ok (.aload_n 0, 1) := by decide +kernel
theorem dX9_init_49 : decode cX9_init 49 = .ok (.new 29, 3) := by decide +kernel
theorem dX9_init_52 : decode cX9_init 52 = .ok (.dup, 1) := by decide +kernel
theorem dX9_init_53 : decode cX9_init 53 = .ok (.invokespecial 31, 3) := by decide +kernel
theorem dX9_init_56 : decode cX9_init 56 = .ok (.putfield 32, 3) := by decide +kernel
theorem dX9_init_59 : decode cX9_init 59 = .ok (.aload_n 0, 1) := by decide +kernel
theorem dX9_init_60 : decode cX9_init 60 = .ok (.new 36, 3) := by decide +kernel
theorem dX9_init_63 : decode cX9_init 63 = .ok (.dup, 1) := by decide +kernel
theorem dX9_init_64 : decode cX9_init 64 = .ok (.invokespecial 38, 3) := by decide +kernel
theorem dX9_init_67 : decode cX9_init 67 = .ok (.putfield 39, 3) := by decide +kernel
theorem dX9_init_70 : decode cX9_init 70 = .ok (.aload_n 0, 1) := by decide +kernel
theorem dX9_init_71 : decode cX9_init 71 = .ok (.new 43, 3) := by decide +kernel
theorem dX9_init_74 : decode cX9_init 74 = .ok (.dup, 1) := by decide +kernel
theorem dX9_init_75 : decode cX9_init 75 = .ok (.invokespecial 45, 3) := by decide +kernel
theorem dX9_init_78 : decode cX9_init 78 = .ok (.putfield 46, 3) := by decide +kernel
theorem dX9_init_81 : decode cX9_init 81 = .ok (.aload_n 0, 1) := by decide +kernel
theorem dX9_init_82 : decode cX9_init 82 = .ok (.new 50, 3) := by decide +kernel
theorem dX9_init_85 : decode cX9_init 85 = .ok (.dup, 1) := by decide +kernel
theorem dX9_init_86 : decode cX9_init 86 = .ok (.invokespecial 52, 3) := by decide +kernel
theorem dX9_init_89 : decode cX9_init 89 = .ok (.putfield 53, 3) := by decide +kernel
theorem dX9_init_92 : decode cX9_init 92 = .ok (.aload_n 0, 1) := by decide +kernel
theorem dX9_init_93 : decode cX9_init 93 = .ok (.new 57, 3) := by decide +kernel
theorem dX9_init_96 : decode cX9_init 96 = .ok (.dup, 1) := by decide +kernel
theorem dX9_init_97 : decode cX9_init 97 = .ok (.invokespecial 59, 3) := by decide +kernel
theorem dX9_init_100 : decode cX9_init 100 = .ok (.putfield 60, 3) := by decide +kernel
theorem dX9_init_103 : decode cX9_init 103 = .ok (.aload_n 0, 1) := by decide +kernel
theorem dX9_init_104 : decode cX9_init 104 = .ok (.iconst 4, 1) := by decide +kernel
theorem dX9_init_105 : decode cX9_init 105 = .ok (.anewarray 64, 3) := by decide +kernel
theorem dX9_init_108 : decode cX9_init 108 = .ok (.putfield 66, 3) := by decide +kernel
theorem dX9_init_111 : decode cX9_init 111 = .ok (.iconst 0, 1) := by decide +kernel
theorem dX9_init_112 : decode cX9_init 112 = .ok (.istore_n 1, 1) := by decide +kernel
theorem dX9_init_113 : decode cX9_init 113 = .ok (.iload_n 1, 1) := by decide +kernel
theorem dX9_init_114 : decode cX9_init 114 = .ok (.iconst 4, 1) := by decide +kernel
theorem dX9_init_115 : decode cX9_init 115 = .ok (.if_icmp .ge 22, 3) := by decide +kernel
theorem dX9_init_118 : decode cX9_init 118 = .ok (.aload_n 0, 1) := by decide +kernel
theorem dX9_init_119 : decode cX9_init 119 = .ok (.getfield 66, 3) := by decide +kernel
theorem dX9_init_122 : decode cX9_init 122 = .ok (.iload_n 1, 1) := by decide +kernel
theorem dX9_init_123 : decode cX9_init 123 = .ok (.new 64, 3) := by decide +kernel
theorem dX9_init_126 : decode cX9_init 126 = .ok (.dup, 1) := by decide +kernel
theorem dX9_init_127 : decode cX9_init 127 = .ok (.invokespecial 70, 3) := by decide +kernel
theorem dX9_init_130 : decode cX9_init 130 = .ok (.aastore, 1) := by decide +kernel
theorem dX9_init_131 : decode cX9_init 131 = .ok (.iinc 1 1, 3) := by decide +kernel
theorem dX9_init_134 : decode cX9_init 134 = .ok (.goto (-21), 3) := by decide +kernel
theorem dX9_init_137 : decode cX9_init 137 = .ok (.aload_n 0, 1) := by decide +kernel
theorem dX9_init_138 : decode cX9_init 138 = .ok (.iconst 0, 1) := by decide +kernel
theorem dX9_init_139 : decode cX9_init 139 = .ok (.putfield 71, 3) := by decide +kernel
theorem dX9_init_142 : decode cX9_init 142 = .ok (.aload_n 0, 1) := by decide +kernel
theorem dX9_init_143 : decode cX9_init 143 = .ok (.iconst (-1), 1) := by decide +kernel
theorem dX9_init_144 : decode cX9_init 144 = .ok (.putfield 75, 3) := by decide +kernel
theorem dX9_init_147 : decode cX9_init 147 = .ok (.return_, 1) := by decide +kernel
theorem dX9_feed_0 : decode cX9_feed 0 = .ok (.aload_n 0, 1) := by decide +kernel
theorem dX9_feed_1 : decode cX9_feed 1 = .ok (.getfield 32, 3) := by decide +kernel
theorem dX9_feed_4 : decode cX9_feed 4 = .ok (.getfield 78, 3) := by decide +kernel
theorem dX9_feed_7 : decode cX9_feed 7 = .ok (.bipush 20, 2) := by decide +kernel
theorem dX9_feed_9 : decode cX9_feed 9 = .ok (.iadd, 1) := by decide +kernel
theorem dX9_feed_10 : decode cX9_feed 10 = .ok (.sipush 900, 3) := by decide +kernel
theorem dX9_feed_13 : decode cX9_feed 13 = .ok (.if_icmp .le 6, 3) := by decide +kernel
theorem dX9_feed_16 : decode cX9_feed 16 = .ok (.bipush (-3), 2) := by decide +kernel
theorem dX9_feed_18 : decode cX9_feed 18 = .ok (.ireturn, 1) := by decide +kernel
theorem dX9_feed_19 : decode cX9_feed 19 = .ok (.aload_n 0, 1) := by decide +kernel
theorem dX9_feed_20 : decode cX9_feed 20 = .ok (.getfield 32, 3) := by decide +kernel
theorem dX9_feed_23 : decode cX9_feed 23 = .ok (.iload_n 1, 1) := by decide +kernel
theorem dX9_feed_24 : decode cX9_feed 24 = .ok (.invokevirtual 81, 3) := by decide +kernel
theorem dX9_feed_27 : decode cX9_feed 27 = .ok (.aload_n 0, 1) := by decide +kernel
theorem dX9_feed_28 : decode cX9_feed 28 = .ok (.getfield 32, 3) := by decide +kernel
theorem dX9_feed_31 : decode cX9_feed 31 = .ok (.iload_n 2, 1) := by decide +kernel
theorem dX9_feed_32 : decode cX9_feed 32 = .ok (.invokevirtual 81, 3) := by decide +kernel
theorem dX9_feed_35 : decode cX9_feed 35 = .ok (.aload_n 0, 1) := by decide +kernel
theorem dX9_feed_36 : decode cX9_feed 36 = .ok (.getfield 32, 3) := by decide +kernel
theorem dX9_feed_39 : decode cX9_feed 39 = .ok (.iload_n 3, 1) := by decide +kernel
theorem dX9_feed_40 : decode cX9_feed 40 = .ok (.invokevirtual 81, 3) := by decide +kernel
theorem dX9_feed_43 : decode cX9_feed 43 = .ok (.aload_n 0, 1) := by decide +kernel
theorem dX9_feed_44 : decode cX9_feed 44 = .ok (.getfield 32, 3) := by decide +kernel
theorem dX9_feed_47 : decode cX9_feed 47 = .ok (.iload 4, 2) := by decide +kernel
theorem dX9_feed_49 : decode cX9_feed 49 = .ok (.invokevirtual 81, 3) := by decide +kernel
theorem dX9_feed_52 : decode cX9_feed 52 = .ok (.aload_n 0, 1) := by decide +kernel
theorem dX9_feed_53 : decode cX9_feed 53 = .ok (.getfield 32, 3) := by decide +kernel
theorem dX9_feed_56 : decode cX9_feed 56 = .ok (.iload 5, 2) := by decide +kernel
theorem dX9_feed_58 : decode cX9_feed 58 = .ok (.invokevirtual 81, 3) := by decide +kernel
theorem dX9_feed_61 : decode cX9_feed 61 = .ok (.aload_n 0, 1) := by decide +kernel
theorem dX9_feed_62 : decode cX9_feed 62 = .ok (.getfield 32, 3) := by decide +kernel
theorem dX9_feed_65 : decode cX9_feed 65 = .ok (.getfield 78, 3) := by decide +kernel
theorem dX9_feed_68 : decode cX9_feed 68 = .ok (.ireturn, 1) := by decide +kernel
theorem dX9_tell_0 : decode cX9_tell 0 = .ok (.iload_n 1, 1) := by decide +kernel
theorem dX9_tell_1 : decode cX9_tell 1 = .ok (.ifCond .lt 14, 3) := by decide +kernel
theorem dX9_tell_4 : decode cX9_tell 4 = .ok (.iload_n 1, 1) := by decide +kernel
theorem dX9_tell_5 : decode cX9_tell 5 = .ok (.aload_n 0, 1) := by decide +kernel
theorem dX9_tell_6 : decode cX9_tell 6 = .ok (.getfield 32, 3) := by decide +kernel
theorem dX9_tell_9 : decode cX9_tell 9 = .ok (.getfield 78, 3) := by decide +kernel
theorem dX9_tell_12 : decode cX9_tell 12 = .ok (.if_icmp .le 6, 3) := by decide +kernel
theorem dX9_tell_15 : decode cX9_tell 15 = .ok (.bipush (-3), 2) := by decide +kernel
theorem dX9_tell_17 : decode cX9_tell 17 = .ok (.ireturn, 1) := by decide +kernel
theorem dX9_tell_18 : decode cX9_tell 18 = .ok (.new 85, 3) := by decide +kernel
theorem dX9_tell_21 : decode cX9_tell 21 = .ok (.dup, 1) := by decide +kernel
theorem dX9_tell_22 : decode cX9_tell 22 = .ok (.aload_n 0, 1) := by decide +kernel
theorem dX9_tell_23 : decode cX9_tell 23 = .ok (.getfield 32, 3) := by decide +kernel
theorem dX9_tell_26 : decode cX9_tell 26 = .ok (.iload_n 1, 1) := by decide +kernel
theorem dX9_tell_27 : decode cX9_tell 27 = .ok (.aload_n 0, 1) := by decide +kernel
theorem dX9_tell_28 : decode cX9_tell 28 = .ok (.getfield 16, 3) := by decide +kernel
theorem dX9_tell_31 : decode cX9_tell 31 = .ok (.aload_n 0, 1) := by decide +kernel
theorem dX9_tell_32 : decode cX9_tell 32 = .ok (.getfield 26, 3) := by decide +kernel
theorem dX9_tell_35 : decode cX9_tell 35 = .ok (.aload_n 0, 1) := by decide +kernel
theorem dX9_tell_36 : decode cX9_tell 36 = .ok (.getfield 39, 3) := by decide +kernel
theorem dX9_tell_39 : decode cX9_tell 39 = .ok (.invokespecial 87, 3) := by decide +kernel
theorem dX9_tell_42 : decode cX9_tell 42 = .ok (.astore_n 2, 1) := by decide +kernel
theorem dX9_tell_43 : decode cX9_tell 43 = .ok (.aload_n 2, 1) := by decide +kernel
theorem dX9_tell_44 : decode cX9_tell 44 = .ok (.invokevirtual 90, 3) := by decide +kernel
theorem dX9_tell_47 : decode cX9_tell 47 = .ok (.aload_n 0, 1) := by decide +kernel
theorem dX9_tell_48 : decode cX9_tell 48 = .ok (.getfield 32, 3) := by decide +kernel
theorem dX9_tell_51 : decode cX9_tell 51 = .ok (.iconst 0, 1) := by decide +kernel
theorem dX9_tell_52 : decode cX9_tell 52 = .ok (.putfield 78, 3) := by decide +kernel
theorem dX9_tell_55 : decode cX9_tell 55 = .ok (.aload_n 0, 1) := by decide +kernel
theorem dX9_tell_56 : decode cX9_tell 56 = .ok (.aload_n 2, 1) := by decide +kernel
theorem dX9_tell_57 : decode cX9_tell 57 = .ok (.getfield 93, 3) := by decide +kernel
theorem dX9_tell_60 : decode cX9_tell 60 = .ok (.putfield 71, 3) := by decide +kernel
theorem dX9_tell_63 : decode cX9_tell 63 = .ok (.aload_n 0, 1) := by decide +kernel
theorem dX9_tell_64 : decode cX9_tell 64 = .ok (.aload_n 2, 1) := by decide +kernel
theorem dX9_tell_65 : decode cX9_tell 65 = .ok (.getfield 96, 3) := by decide +kernel
theorem dX9_tell_68 : decode cX9_tell 68 = .ok (.putfield 75, 3) := by decide +kernel
theorem dX9_tell_71 : decode cX9_tell 71 = .ok (.aload_n 0, 1) := by decide +kernel
theorem dX9_tell_72 : decode cX9_tell 72 = .ok (.getfield 71, 3) := by decide +kernel
theorem dX9_tell_75 : decode cX9_tell 75 = .ok (.ifCond .eq 11, 3) := by decide +kernel
theorem dX9_tell_78 : decode cX9_tell 78 = .ok (.bipush (-30), 2) := by decide +kernel
theorem dX9_tell_80 : decode cX9_tell 80 = .ok (.aload_n 0, 1) := by decide +kernel
theorem dX9_tell_81 : decode cX9_tell 81 = .ok (.getfield 71, 3) := by decide +kernel
theorem dX9_tell_84 : decode cX9_tell 84 = .ok (.isub, 1) := by decide +kernel
theorem dX9_tell_85 : decode cX9_tell 85 = .ok (.ireturn, 1) := by decide +kernel
theorem dX9_tell_86 : decode cX9_tell 86 = .ok (.aload_n 0, 1) := by decide +kernel
theorem dX9_tell_87 : decode cX9_tell 87 = .ok (.invokevirtual 99, 3) := by decide +kernel
theorem dX9_tell_90 : decode cX9_tell 90 = .ok (.aload_n 2, 1) := by decide +kernel
theorem dX9_tell_91 : decode cX9_tell 91 = .ok (.getfield 102, 3) := by decide +kernel
theorem dX9_tell_94 : decode cX9_tell 94 = .ok (.ireturn, 1) := by decide +kernel
theorem dX9_takeSpareLeaf_0 : decode cX9_takeSpareLeaf 0 = .ok (.aload_n 0, 1) := by decide +kernel
theorem dX9_takeSpareLeaf_1 : decode cX9_takeSpareLeaf 1 = .ok (.getfield 10, 3) := by decide +kernel
theorem dX9_takeSpareLeaf_4 : decode cX9_takeSpareLeaf 4 = .ok (.astore_n 1, 1) := by decide +kernel
theorem dX9_takeSpareLeaf_5 : decode cX9_takeSpareLeaf 5 = .ok (.aload_n 0, 1) := by decide +kernel
theorem dX9_takeSpareLeaf_6 : decode cX9_takeSpareLeaf 6 = .ok (.aload_n 0, 1) := by decide +kernel
theorem dX9_takeSpareLeaf_7 : decode cX9_takeSpareLeaf 7 = .ok (.getfield 16, 3) := by decide +kernel
theorem dX9_takeSpareLeaf_10 : decode cX9_takeSpareLeaf 10 = .ok (.putfield 10, 3) := by decide +kernel
theorem dX9_takeSpareLeaf_13 : decode cX9_takeSpareLeaf 13 = .ok (.aload_n 0, 1) := by decide +kernel
theorem dX9_takeSpareLeaf_14 : decode cX9_takeSpareLeaf 14 = .ok (.aload_n 1, 1) := by decide +kernel
theorem dX9_takeSpareLeaf_15 : decode cX9_takeSpareLeaf 15 = .ok (.putfield 16, 3) := by decide +kernel
theorem dX9_takeSpareLeaf_18 : decode cX9_takeSpareLeaf 18 = .ok (.aload_n 0, 1) := by decide +kernel
theorem dX9_takeSpareLeaf_19 : decode cX9_takeSpareLeaf 19 = .ok (.getfield 22, 3) := by decide +kernel
theorem dX9_takeSpareLeaf_22 : decode cX9_takeSpareLeaf 22 = .ok (.astore_n 2, 1) := by decide +kernel
theorem dX9_takeSpareLeaf_23 : decode cX9_takeSpareLeaf 23 = .ok (.aload_n 0, 1) := by decide +kernel
theorem dX9_takeSpareLeaf_24 : decode cX9_takeSpareLeaf 24 = .ok (.aload_n 0, 1) := by decide +kernel
theorem dX9_takeSpareLeaf_25 : decode cX9_takeSpareLeaf 25 = .ok (.getfield 26, 3) := by decide +kernel
theorem dX9_takeSpareLeaf_28 : decode cX9_takeSpareLeaf 28 = .ok (.putfield 22, 3) := by decide +kernel
theorem dX9_takeSpareLeaf_31 : decode cX9_takeSpareLeaf 31 = .ok (.aload_n 0, 1) := by decide +kernel
theorem dX9_takeSpareLeaf_32 : decode cX9_takeSpareLeaf 32 = .ok (.aload_n 2, 1) := by decide +kernel
theorem dX9_takeSpareLeaf_33 : decode cX9_takeSpareLeaf 33 = .ok (.putfield 26, 3) := by decide +kernel
theorem dX9_takeSpareLeaf_36 : decode cX9_takeSpareLeaf 36 = .ok (.aload_n 0, 1) := by decide +kernel
theorem dX9_takeSpareLeaf_37 : decode cX9_takeSpareLeaf 37 = .ok (.getfield 46, 3) := by decide +kernel
theorem dX9_takeSpareLeaf_40 : decode cX9_takeSpareLeaf 40 = .ok (.iconst 0, 1) := by decide +kernel
theorem dX9_takeSpareLeaf_41 : decode cX9_takeSpareLeaf 41 = .ok (.putfield 105, 3) := by decide +kernel
theorem dX9_takeSpareLeaf_44 : decode cX9_takeSpareLeaf 44 = .ok (.aload_n 0, 1) := by decide +kernel
theorem dX9_takeSpareLeaf_45 : decode cX9_takeSpareLeaf 45 = .ok (.invokevirtual 106, 3) := by decide +kernel
theorem dX9_takeSpareLeaf_48 : decode cX9_takeSpareLeaf 48 = .ok (.return_, 1) := by decide +kernel
theorem dX9_fault_0 : decode cX9_fault 0 = .ok (.iload_n 1, 1) := by decide +kernel
theorem dX9_fault_1 : decode cX9_fault 1 = .ok (.ifCond .ne 8, 3) := by decide +kernel
theorem dX9_fault_4 : decode cX9_fault 4 = .ok (.aload_n 0, 1) := by decide +kernel
theorem dX9_fault_5 : decode cX9_fault 5 = .ok (.getfield 71, 3) := by decide +kernel
theorem dX9_fault_8 : decode cX9_fault 8 = .ok (.ireturn, 1) := by decide +kernel
theorem dX9_fault_9 : decode cX9_fault 9 = .ok (.iload_n 1, 1) := by decide +kernel
theorem dX9_fault_10 : decode cX9_fault 10 = .ok (.iconst 1, 1) := by decide +kernel
theorem dX9_fault_11 : decode cX9_fault 11 = .ok (.if_icmp .ne 10, 3) := by decide +kernel
theorem dX9_fault_14 : decode cX9_fault 14 = .ok (.aload_n 0, 1) := by decide +kernel
theorem dX9_fault_15 : decode cX9_fault 15 = .ok (.getfield 75, 3) := by decide +kernel
theorem dX9_fault_18 : decode cX9_fault 18 = .ok (.goto 4, 3) := by decide +kernel
theorem dX9_fault_21 : decode cX9_fault 21 = .ok (.iconst (-1), 1) := by decide +kernel
theorem dX9_fault_22 : decode cX9_fault 22 = .ok (.ireturn, 1) := by decide +kernel
theorem dX9_over_0 : decode cX9_over 0 = .ok (.aload_n 0, 1) := by decide +kernel
theorem dX9_over_1 : decode cX9_over 1 = .ok (.getfield 10, 3) := by decide +kernel
theorem dX9_over_4 : decode cX9_over 4 = .ok (.iload_n 1, 1) := by decide +kernel
theorem dX9_over_5 : decode cX9_over 5 = .ok (.iload_n 2, 1) := by decide +kernel
theorem dX9_over_6 : decode cX9_over 6 = .ok (.invokestatic 109, 3) := by decide +kernel
theorem dX9_over_9 : decode cX9_over 9 = .ok (.istore_n 3, 1) := by decide +kernel
theorem dX9_over_10 : decode cX9_over 10 = .ok (.iload_n 3, 1) := by decide +kernel
theorem dX9_over_11 : decode cX9_over 11 = .ok (.bipush (-105), 2) := by decide +kernel
theorem dX9_over_13 : decode cX9_over 13 = .ok (.if_icmp .ne 19, 3) := by decide +kernel
theorem dX9_over_16 : decode cX9_over 16 = .ok (.aload_n 0, 1) := by decide +kernel
theorem dX9_over_17 : decode cX9_over 17 = .ok (.getfield 39, 3) := by decide +kernel
theorem dX9_over_20 : decode cX9_over 20 = .ok (.aload_n 0, 1) := by decide +kernel
theorem dX9_over_21 : decode cX9_over 21 = .ok (.getfield 10, 3) := by decide +kernel
theorem dX9_over_24 : decode cX9_over 24 = .ok (.iload_n 1, 1) := by decide +kernel
theorem dX9_over_25 : decode cX9_over 25 = .ok (.iload_n 2, 1) := by decide +kernel
theorem dX9_over_26 : decode cX9_over 26 = .ok (.invokevirtual 113, 3) := by decide +kernel
theorem dX9_over_29 : decode cX9_over 29 = .ok (.bipush (-5), 2) := by decide +kernel
theorem dX9_over_31 : decode cX9_over 31 = .ok (.ireturn, 1) := by decide +kernel
theorem dX9_over_32 : decode cX9_over 32 = .ok (.iload_n 3, 1) := by decide +kernel
theorem dX9_over_33 : decode cX9_over 33 = .ok (.ifCond .eq 5, 3) := by decide +kernel
theorem dX9_over_36 : decode cX9_over 36 = .ok (.iload_n 3, 1) := by decide +kernel
theorem dX9_over_37 : decode cX9_over 37 = .ok (.ireturn, 1) := by decide +kernel
theorem dX9_over_38 : decode cX9_over 38 = .ok (.aload_n 0, 1) := by decide +kernel
theorem dX9_over_39 : decode cX9_over 39 = .ok (.getfield 10, 3) := by decide +kernel
theorem dX9_over_42 : decode cX9_over 42 = .ok (.iload_n 1, 1) := by decide +kernel
theorem dX9_over_43 : decode cX9_over 43 = .ok (.iload_n 2, 1) := by decide +kernel
theorem dX9_over_44 : decode cX9_over 44 = .ok (.invokevirtual 117, 3) := by decide +kernel
theorem dX9_over_47 : decode cX9_over 47 = .ok (.aload_n 0, 1) := by decide +kernel
theorem dX9_over_48 : decode cX9_over 48 = .ok (.invokevirtual 106, 3) := by decide +kernel
theorem dX9_over_51 : decode cX9_over 51 = .ok (.aload_n 0, 1) := by decide +kernel
theorem dX9_over_52 : decode cX9_over 52 = .ok (.getfield 46, 3) := by decide +kernel
theorem dX9_over_55 : decode cX9_over 55 = .ok (.iconst 0, 1) := by decide +kernel
theorem dX9_over_56 : decode cX9_over 56 = .ok (.iload_n 1, 1) := by decide +kernel
theorem dX9_over_57 : decode cX9_over 57 = .ok (.iload_n 2, 1) := by decide +kernel
theorem dX9_over_58 : decode cX9_over 58 = .ok (.invokevirtual 121, 3) := by decide +kernel
theorem dX9_over_61 : decode cX9_over 61 = .ok (.aload_n 0, 1) := by decide +kernel
theorem dX9_over_62 : decode cX9_over 62 = .ok (.getfield 10, 3) := by decide +kernel
theorem dX9_over_65 : decode cX9_over 65 = .ok (.getfield 125, 3) := by decide +kernel
theorem dX9_over_68 : decode cX9_over 68 = .ok (.ireturn, 1) := by decide +kernel
theorem dX9_takes_0 : decode cX9_takes 0 = .ok (.aload_n 0, 1) := by decide +kernel
theorem dX9_takes_1 : decode cX9_takes 1 = .ok (.getfield 10, 3) := by decide +kernel
theorem dX9_takes_4 : decode cX9_takes 4 = .ok (.iload_n 1, 1) := by decide +kernel
theorem dX9_takes_5 : decode cX9_takes 5 = .ok (.invokevirtual 128, 3) := by decide +kernel
theorem dX9_takes_8 : decode cX9_takes 8 = .ok (.ifCond .eq 14, 3) := by decide +kernel
theorem dX9_takes_11 : decode cX9_takes 11 = .ok (.aload_n 0, 1) := by decide +kernel
theorem dX9_takes_12 : decode cX9_takes 12 = .ok (.getfield 10, 3) := by decide +kernel
theorem dX9_takes_15 : decode cX9_takes 15 = .ok (.iload_n 2, 1) := by decide +kernel
theorem dX9_takes_16 : decode cX9_takes 16 = .ok (.invokevirtual 128, 3) := by decide +kernel
theorem dX9_takes_19 : decode cX9_takes 19 = .ok (.ifCond .ne 6, 3) := by decide +kernel
theorem dX9_takes_22 : decode cX9_takes 22 = .ok (.bipush (-2), 2) := by decide +kernel
theorem dX9_takes_24 : decode cX9_takes 24 = .ok (.ireturn, 1) := by decide +kernel
theorem dX9_takes_25 : decode cX9_takes 25 = .ok (.aload_n 0, 1) := by decide +kernel
theorem dX9_takes_26 : decode cX9_takes 26 = .ok (.getfield 10, 3) := by decide +kernel
theorem dX9_takes_29 : decode cX9_takes 29 = .ok (.iload_n 1, 1) := by decide +kernel
theorem dX9_takes_30 : decode cX9_takes 30 = .ok (.iload_n 2, 1) := by decide +kernel
theorem dX9_takes_31 : decode cX9_takes 31 = .ok (.invokevirtual 132, 3) := by decide +kernel
theorem dX9_takes_34 : decode cX9_takes 34 = .ok (.ifCond .ne 6, 3) := by decide +kernel
theorem dX9_takes_37 : decode cX9_takes 37 = .ok (.bipush (-5), 2) := by decide +kernel
theorem dX9_takes_39 : decode cX9_takes 39 = .ok (.ireturn, 1) := by decide +kernel
theorem dX9_takes_40 : decode cX9_takes 40 = .ok (.aload_n 0, 1) := by decide +kernel
theorem dX9_takes_41 : decode cX9_takes 41 = .ok (.getfield 10, 3) := by decide +kernel
theorem dX9_takes_44 : decode cX9_takes 44 = .ok (.iload_n 1, 1) := by decide +kernel
theorem dX9_takes_45 : decode cX9_takes 45 = .ok (.iload_n 2, 1) := by decide +kernel
theorem dX9_takes_46 : decode cX9_takes 46 = .ok (.invokevirtual 136, 3) := by decide +kernel
theorem dX9_takes_49 : decode cX9_takes 49 = .ok (.aload_n 0, 1) := by decide +kernel
theorem dX9_takes_50 : decode cX9_takes 50 = .ok (.invokevirtual 106, 3) := by decide +kernel
theorem dX9_takes_53 : decode cX9_takes 53 = .ok (.aload_n 0, 1) := by decide +kernel
theorem dX9_takes_54 : decode cX9_takes 54 = .ok (.getfield 46, 3) := by decide +kernel
theorem dX9_takes_57 : decode cX9_takes 57 = .ok (.iconst 1, 1) := by decide +kernel
theorem dX9_takes_58 : decode cX9_takes 58 = .ok (.iload_n 1, 1) := by decide +kernel
theorem dX9_takes_59 : decode cX9_takes 59 = .ok (.iload_n 2, 1) := by decide +kernel
theorem dX9_takes_60 : decode cX9_takes 60 = .ok (.invokevirtual 121, 3) := by decide +kernel
theorem dX9_takes_63 : decode cX9_takes 63 = .ok (.aload_n 0, 1) := by decide +kernel
theorem dX9_takes_64 : decode cX9_takes 64 = .ok (.getfield 10, 3) := by decide +kernel
theorem dX9_takes_67 : decode cX9_takes 67 = .ok (.getfield 125, 3) := by decide +kernel
theorem dX9_takes_70 : decode cX9_takes 70 = .ok (.ireturn, 1) := by decide +kernel
theorem dX9_hand_0 : decode cX9_hand 0 = .ok (.aload_n 0, 1) := by decide +kernel
theorem dX9_hand_1 : decode cX9_hand 1 = .ok (.getfield 10, 3) := by decide +kernel
theorem dX9_hand_4 : decode cX9_hand 4 = .ok (.iload_n 1, 1) := by decide +kernel
theorem dX9_hand_5 : decode cX9_hand 5 = .ok (.invokevirtual 128, 3) := by decide +kernel
theorem dX9_hand_8 : decode cX9_hand 8 = .ok (.ifCond .ne 6, 3) := by decide +kernel
theorem dX9_hand_11 : decode cX9_hand 11 = .ok (.bipush (-2), 2) := by decide +kernel
theorem dX9_hand_13 : decode cX9_hand 13 = .ok (.ireturn, 1) := by decide +kernel
theorem dX9_hand_14 : decode cX9_hand 14 = .ok (.iload_n 2, 1) := by decide +kernel
theorem dX9_hand_15 : decode cX9_hand 15 = .ok (.iconst (-1), 1) := by decide +kernel
theorem dX9_hand_16 : decode cX9_hand 16 = .ok (.if_icmp .lt 8, 3) := by decide +kernel
theorem dX9_hand_19 : decode cX9_hand 19 = .ok (.iload_n 2, 1) := by decide +kernel
theorem dX9_hand_20 : decode cX9_hand 20 = .ok (.iconst 1, 1) := by decide +kernel
theorem dX9_hand_21 : decode cX9_hand 21 = .ok (.if_icmp .le 6, 3) := by decide +kernel
theorem dX9_hand_24 : decode cX9_hand 24 = .ok (.bipush (-3), 2) := by decide +kernel
theorem dX9_hand_26 : decode cX9_hand 26 = .ok (.ireturn, 1) := by decide +kernel
theorem dX9_hand_27 : decode cX9_hand 27 = .ok (.aload_n 0, 1) := by decide +kernel
theorem dX9_hand_28 : decode cX9_hand 28 = .ok (.getfield 10, 3) := by decide +kernel
theorem dX9_hand_31 : decode cX9_hand 31 = .ok (.iload_n 1, 1) := by decide +kernel
theorem dX9_hand_32 : decode cX9_hand 32 = .ok (.iload_n 2, 1) := by decide +kernel
theorem dX9_hand_33 : decode cX9_hand 33 = .ok (.invokevirtual 139, 3) := by decide +kernel
theorem dX9_hand_36 : decode cX9_hand 36 = .ok (.ifCond .eq 6, 3) := by decide +kernel
theorem dX9_hand_39 : decode cX9_hand 39 = .ok (.bipush (-9), 2) := by decide +kernel
theorem dX9_hand_41 : decode cX9_hand 41 = .ok (.ireturn, 1) := by decide +kernel
theorem dX9_hand_42 : decode cX9_hand 42 = .ok (.aload_n 0, 1) := by decide +kernel
theorem dX9_hand_43 : decode cX9_hand 43 = .ok (.getfield 10, 3) := by decide +kernel
theorem dX9_hand_46 : decode cX9_hand 46 = .ok (.iload_n 1, 1) := by decide +kernel
theorem dX9_hand_47 : decode cX9_hand 47 = .ok (.invokevirtual 142, 3) := by decide +kernel
theorem dX9_hand_50 : decode cX9_hand 50 = .ok (.istore_n 3, 1) := by decide +kernel
theorem dX9_hand_51 : decode cX9_hand 51 = .ok (.aload_n 0, 1) := by decide +kernel
theorem dX9_hand_52 : decode cX9_hand 52 = .ok (.getfield 10, 3) := by decide +kernel
theorem dX9_hand_55 : decode cX9_hand 55 = .ok (.iload_n 1, 1) := by decide +kernel
theorem dX9_hand_56 : decode cX9_hand 56 = .ok (.iload_n 2, 1) := by decide +kernel
theorem dX9_hand_57 : decode cX9_hand 57 = .ok (.invokevirtual 146, 3) := by decide +kernel
theorem dX9_hand_60 : decode cX9_hand 60 = .ok (.aload_n 0, 1) := by decide +kernel
theorem dX9_hand_61 : decode cX9_hand 61 = .ok (.getfield 60, 3) := by decide +kernel
theorem dX9_hand_64 : decode cX9_hand 64 = .ok (.iconst 1, 1) := by decide +kernel
theorem dX9_hand_65 : decode cX9_hand 65 = .ok (.putfield 149, 3) := by decide +kernel
theorem dX9_hand_68 : decode cX9_hand 68 = .ok (.aload_n 0, 1) := by decide +kernel
theorem dX9_hand_69 : decode cX9_hand 69 = .ok (.getfield 46, 3) := by decide +kernel
theorem dX9_hand_72 : decode cX9_hand 72 = .ok (.iconst 2, 1) := by decide +kernel
theorem dX9_hand_73 : decode cX9_hand 73 = .ok (.iload_n 1, 1) := by decide +kernel
theorem dX9_hand_74 : decode cX9_hand 74 = .ok (.iload_n 3, 1) := by decide +kernel
theorem dX9_hand_75 : decode cX9_hand 75 = .ok (.invokevirtual 121, 3) := by decide +kernel
theorem dX9_hand_78 : decode cX9_hand 78 = .ok (.iload_n 3, 1) := by decide +kernel
theorem dX9_hand_79 : decode cX9_hand 79 = .ok (.iconst 1, 1) := by decide +kernel
theorem dX9_hand_80 : decode cX9_hand 80 = .ok (.iadd, 1) := by decide +kernel
theorem dX9_hand_81 : decode cX9_hand 81 = .ok (.ireturn, 1) := by decide +kernel
theorem dX9_weigh_0 : decode cX9_weigh 0 = .ok (.aload_n 0, 1) := by decide +kernel
theorem dX9_weigh_1 : decode cX9_weigh 1 = .ok (.getfield 22, 3) := by decide +kernel
theorem dX9_weigh_4 : decode cX9_weigh 4 = .ok (.iload_n 1, 1) := by decide +kernel
theorem dX9_weigh_5 : decode cX9_weigh 5 = .ok (.invokevirtual 153, 3) := by decide +kernel
theorem dX9_weigh_8 : decode cX9_weigh 8 = .ok (.ifCond .ne 6, 3) := by decide +kernel
theorem dX9_weigh_11 : decode cX9_weigh 11 = .ok (.bipush (-2), 2) := by decide +kernel
theorem dX9_weigh_13 : decode cX9_weigh 13 = .ok (.ireturn, 1) := by decide +kernel
theorem dX9_weigh_14 : decode cX9_weigh 14 = .ok (.iload_n 2, 1) := by decide +kernel
theorem dX9_weigh_15 : decode cX9_weigh 15 = .ok (.iconst 1, 1) := by decide +kernel
theorem dX9_weigh_16 : decode cX9_weigh 16 = .ok (.if_icmp .lt 9, 3) := by decide +kernel
theorem dX9_weigh_19 : decode cX9_weigh 19 = .ok (.iload_n 2, 1) := by decide +kernel
theorem dX9_weigh_20 : decode cX9_weigh 20 = .ok (.bipush 99, 2) := by decide +kernel
theorem dX9_weigh_22 : decode cX9_weigh 22 = .ok (.if_icmp .le 6, 3) := by decide +kernel
theorem dX9_weigh_25 : decode cX9_weigh 25 = .ok (.bipush (-3), 2) := by decide +kernel
theorem dX9_weigh_27 : decode cX9_weigh 27 = .ok (.ireturn, 1) := by decide +kernel
theorem dX9_weigh_28 : decode cX9_weigh 28 = .ok (.aload_n 0, 1) := by decide +kernel
theorem dX9_weigh_29 : decode cX9_weigh 29 = .ok (.getfield 22, 3) := by decide +kernel
theorem dX9_weigh_32 : decode cX9_weigh 32 = .ok (.getfield 156, 3) := by decide +kernel
theorem dX9_weigh_35 : decode cX9_weigh 35 = .ok (.iload_n 1, 1) := by decide +kernel
theorem dX9_weigh_36 : decode cX9_weigh 36 = .ok (.iaload, 1) := by decide +kernel
theorem dX9_weigh_37 : decode cX9_weigh 37 = .ok (.istore_n 3, 1) := by decide +kernel
theorem dX9_weigh_38 : decode cX9_weigh 38 = .ok (.aload_n 0, 1) := by decide +kernel
theorem dX9_weigh_39 : decode cX9_weigh 39 = .ok (.getfield 22, 3) := by decide +kernel
theorem dX9_weigh_42 : decode cX9_weigh 42 = .ok (.getfield 156, 3) := by decide +kernel
theorem dX9_weigh_45 : decode cX9_weigh 45 = .ok (.iload_n 1, 1) := by decide +kernel
theorem dX9_weigh_46 : decode cX9_weigh 46 = .ok (.iload_n 2, 1) := by decide +kernel
theorem dX9_weigh_47 : decode cX9_weigh 47 = .ok (.iastore, 1) := by decide +kernel
theorem dX9_weigh_48 : decode cX9_weigh 48 = .ok (.aload_n 0, 1) := by decide +kernel
theorem dX9_weigh_49 : decode cX9_weigh 49 = .ok (.getfield 46, 3) := by decide +kernel
theorem dX9_weigh_52 : decode cX9_weigh 52 = .ok (.iconst 3, 1) := by decide +kernel
theorem dX9_weigh_53 : decode cX9_weigh 53 = .ok (.iload_n 1, 1) := by decide +kernel
theorem dX9_weigh_54 : decode cX9_weigh 54 = .ok (.iload_n 3, 1) := by decide +kernel
theorem dX9_weigh_55 : decode cX9_weigh 55 = .ok (.invokevirtual 121, 3) := by decide +kernel
theorem dX9_weigh_58 : decode cX9_weigh 58 = .ok (.iload_n 3, 1) := by decide +kernel
theorem dX9_weigh_59 : decode cX9_weigh 59 = .ok (.ireturn, 1) := by decide +kernel
theorem dX9_undo_0 : decode cX9_undo 0 = .ok (.aload_n 0, 1) := by decide +kernel
theorem dX9_undo_1 : decode cX9_undo 1 = .ok (.getfield 46, 3) := by decide +kernel
theorem dX9_undo_4 : decode cX9_undo 4 = .ok (.getfield 105, 3) := by decide +kernel
theorem dX9_undo_7 : decode cX9_undo 7 = .ok (.ifCond .ne 6, 3) := by decide +kernel
theorem dX9_undo_10 : decode cX9_undo 10 = .ok (.bipush (-5), 2) := by decide +kernel
theorem dX9_undo_12 : decode cX9_undo 12 = .ok (.ireturn, 1) := by decide +kernel
theorem dX9_undo_13 : decode cX9_undo 13 = .ok (.aload_n 0, 1) := by decide +kernel
theorem dX9_undo_14 : decode cX9_undo 14 = .ok (.getfield 46, 3) := by decide +kernel
theorem dX9_undo_17 : decode cX9_undo 17 = .ok (.invokevirtual 160, 3) := by decide +kernel
theorem dX9_undo_20 : decode cX9_undo 20 = .ok (.istore_n 1, 1) := by decide +kernel
theorem dX9_undo_21 : decode cX9_undo 21 = .ok (.aload_n 0, 1) := by decide +kernel
theorem dX9_undo_22 : decode cX9_undo 22 = .ok (.aload_n 0, 1) := by decide +kernel
theorem dX9_undo_23 : decode cX9_undo 23 = .ok (.getfield 46, 3) := by decide +kernel
theorem dX9_undo_26 : decode cX9_undo 26 = .ok (.getfield 164, 3) := by decide +kernel
theorem dX9_undo_29 : decode cX9_undo 29 = .ok (.iload_n 1, 1) := by decide +kernel
theorem dX9_undo_30 : decode cX9_undo 30 = .ok (.iaload, 1) := by decide +kernel
theorem dX9_undo_31 : decode cX9_undo 31 = .ok (.aload_n 0, 1) := by decide +kernel
theorem dX9_undo_32 : decode cX9_undo 32 = .ok (.getfield 46, 3) := by decide +kernel
theorem dX9_undo_35 : decode cX9_undo 35 = .ok (.getfield 167, 3) := by decide +kernel
theorem dX9_undo_38 : decode cX9_undo 38 = .ok (.iload_n 1, 1) := by decide +kernel
theorem dX9_undo_39 : decode cX9_undo 39 = .ok (.iaload, 1) := by decide +kernel
theorem dX9_undo_40 : decode cX9_undo 40 = .ok (.aload_n 0, 1) := by decide +kernel
theorem dX9_undo_41 : decode cX9_undo 41 = .ok (.getfield 46, 3) := by decide +kernel
theorem dX9_undo_44 : decode cX9_undo 44 = .ok (.getfield 170, 3) := by decide +kernel
theorem dX9_undo_47 : decode cX9_undo 47 = .ok (.iload_n 1, 1) := by decide +kernel
theorem dX9_undo_48 : decode cX9_undo 48 = .ok (.iaload, 1) := by decide +kernel
theorem dX9_undo_49 : decode cX9_undo 49 = .ok (.invokevirtual 173, 3) := by decide +kernel
theorem dX9_undo_52 : decode cX9_undo 52 = .ok (.aload_n 0, 1) := by decide +kernel
theorem dX9_undo_53 : decode cX9_undo 53 = .ok (.getfield 46, 3) := by decide +kernel
theorem dX9_undo_56 : decode cX9_undo 56 = .ok (.getfield 105, 3) := by decide +kernel
theorem dX9_undo_59 : decode cX9_undo 59 = .ok (.ireturn, 1) := by decide +kernel
theorem dX9_takeBack_0 : decode cX9_takeBack 0 = .ok (.iload_n 1, 1) := by decide +kernel
theorem dX9_takeBack_1 : decode cX9_takeBack 1 = .ok (.tableswitch 79 0 2 #[27, 43, 59], 27) := by decide +kernel
theorem dX9_takeBack_28 : decode cX9_takeBack 28 = .ok (.aload_n 0, 1) := by decide +kernel
theorem dX9_takeBack_29 : decode cX9_takeBack 29 = .ok (.getfield 10, 3) := by decide +kernel
theorem dX9_takeBack_32 : decode cX9_takeBack 32 = .ok (.iload_n 2, 1) := by decide +kernel
theorem dX9_takeBack_33 : decode cX9_takeBack 33 = .ok (.iload_n 3, 1) := by decide +kernel
theorem dX9_takeBack_34 : decode cX9_takeBack 34 = .ok (.invokevirtual 136, 3) := by decide +kernel
theorem dX9_takeBack_37 : decode cX9_takeBack 37 = .ok (.aload_n 0, 1) := by decide +kernel
theorem dX9_takeBack_38 : decode cX9_takeBack 38 = .ok (.invokevirtual 106, 3) := by decide +kernel
theorem dX9_takeBack_41 : decode cX9_takeBack 41 = .ok (.goto 49, 3) := by decide +kernel
theorem dX9_takeBack_44 : decode cX9_takeBack 44 = .ok (.aload_n 0, 1) := by decide +kernel
theorem dX9_takeBack_45 : decode cX9_takeBack 45 = .ok (.getfield 10, 3) := by decide +kernel
theorem dX9_takeBack_48 : decode cX9_takeBack 48 = .ok (.iload_n 2, 1) := by decide +kernel
theorem dX9_takeBack_49 : decode cX9_takeBack 49 = .ok (.iload_n 3, 1) := by decide +kernel
theorem dX9_takeBack_50 : decode cX9_takeBack 50 = .ok (.invokevirtual 117, 3) := by decide +kernel
theorem dX9_takeBack_53 : decode cX9_takeBack 53 = .ok (.aload_n 0, 1) := by decide +kernel
theorem dX9_takeBack_54 : decode cX9_takeBack 54 = .ok (.invokevirtual 106, 3) := by decide +kernel
theorem dX9_takeBack_57 : decode cX9_takeBack 57 = .ok (.goto 33, 3) := by decide +kernel
theorem dX9_takeBack_60 : decode cX9_takeBack 60 = .ok (.aload_n 0, 1) := by decide +kernel
theorem dX9_takeBack_61 : decode cX9_takeBack 61 = .ok (.getfield 10, 3) := by decide +kernel
theorem dX9_takeBack_64 : decode cX9_takeBack 64 = .ok (.iload_n 2, 1) := by decide +kernel
theorem dX9_takeBack_65 : decode cX9_takeBack 65 = .ok (.iload_n 3, 1) := by decide +kernel
theorem dX9_takeBack_66 : decode cX9_takeBack 66 = .ok (.invokevirtual 146, 3) := by decide +kernel
theorem dX9_takeBack_69 : decode cX9_takeBack 69 = .ok (.aload_n 0, 1) := by decide +kernel
theorem dX9_takeBack_70 : decode cX9_takeBack 70 = .ok (.getfield 60, 3) := by decide +kernel
theorem dX9_takeBack_73 : decode cX9_takeBack 73 = .ok (.iconst 1, 1) := by decide +kernel
theorem dX9_takeBack_74 : decode cX9_takeBack 74 = .ok (.putfield 149, 3) := by decide +kernel
theorem dX9_takeBack_77 : decode cX9_takeBack 77 = .ok (.goto 13, 3) := by decide +kernel
theorem dX9_takeBack_80 : decode cX9_takeBack 80 = .ok (.aload_n 0, 1) := by decide +kernel
theorem dX9_takeBack_81 : decode cX9_takeBack 81 = .ok (.getfield 22, 3) := by decide +kernel
theorem dX9_takeBack_84 : decode cX9_takeBack 84 = .ok (.getfield 156, 3) := by decide +kernel
theorem dX9_takeBack_87 : decode cX9_takeBack 87 = .ok (.iload_n 2, 1) := by decide +kernel
theorem dX9_takeBack_88 : decode cX9_takeBack 88 = .ok (.iload_n 3, 1) := by decide +kernel
theorem dX9_takeBack_89 : decode cX9_takeBack 89 = .ok (.iastore, 1) := by decide +kernel
theorem dX9_takeBack_90 : decode cX9_takeBack 90 = .ok (.return_, 1) := by decide +kernel
theorem dX9_refusalOf_0 : decode cX9_refusalOf 0 = .ok (.aload_n 0, 1) := by decide +kernel
theorem dX9_refusalOf_1 : decode cX9_refusalOf 1 = .ok (.iload_n 1, 1) := by decide +kernel
theorem dX9_refusalOf_2 : decode cX9_refusalOf 2 = .ok (.invokevirtual 128, 3) := by decide +kernel
theorem dX9_refusalOf_5 : decode cX9_refusalOf 5 = .ok (.ifCond .eq 11, 3) := by decide +kernel
theorem dX9_refusalOf_8 : decode cX9_refusalOf 8 = .ok (.aload_n 0, 1) := by decide +kernel
theorem dX9_refusalOf_9 : decode cX9_refusalOf 9 = .ok (.iload_n 2, 1) := by decide +kernel
theorem dX9_refusalOf_10 : decode cX9_refusalOf 10 = .ok (.invokevirtual 128, 3) := by decide +kernel
theorem dX9_refusalOf_13 : decode cX9_refusalOf 13 = .ok (.ifCond .ne 6, 3) := by decide +kernel
theorem dX9_refusalOf_16 : decode cX9_refusalOf 16 = .ok (.bipush (-2), 2) := by decide +kernel
theorem dX9_refusalOf_18 : decode cX9_refusalOf 18 = .ok (.ireturn, 1) := by decide +kernel
theorem dX9_refusalOf_19 : decode cX9_refusalOf 19 = .ok (.aload_n 0, 1) := by decide +kernel
theorem dX9_refusalOf_20 : decode cX9_refusalOf 20 = .ok (.iload_n 1, 1) := by decide +kernel
theorem dX9_refusalOf_21 : decode cX9_refusalOf 21 = .ok (.iload_n 2, 1) := by decide +kernel
theorem dX9_refusalOf_22 : decode cX9_refusalOf 22 = .ok (.invokevirtual 176, 3) := by decide +kernel
theorem dX9_refusalOf_25 : decode cX9_refusalOf 25 = .ok (.ifCond .ne 6, 3) := by decide +kernel
theorem dX9_refusalOf_28 : decode cX9_refusalOf 28 = .ok (.bipush (-5), 2) := by decide +kernel
theorem dX9_refusalOf_30 : decode cX9_refusalOf 30 = .ok (.ireturn, 1) := by decide +kernel
theorem dX9_refusalOf_31 : decode cX9_refusalOf 31 = .ok (.aload_n 0, 1) := by decide +kernel
theorem dX9_refusalOf_32 : decode cX9_refusalOf 32 = .ok (.iload_n 2, 1) := by decide +kernel
theorem dX9_refusalOf_33 : decode cX9_refusalOf 33 = .ok (.iload_n 1, 1) := by decide +kernel
theorem dX9_refusalOf_34 : decode cX9_refusalOf 34 = .ok (.invokevirtual 179, 3) := by decide +kernel
theorem dX9_refusalOf_37 : decode cX9_refusalOf 37 = .ok (.ifCond .eq 6, 3) := by decide +kernel
theorem dX9_refusalOf_40 : decode cX9_refusalOf 40 = .ok (.bipush (-105), 2) := by decide +kernel
theorem dX9_refusalOf_42 : decode cX9_refusalOf 42 = .ok (.ireturn, 1) := by decide +kernel
theorem dX9_refusalOf_43 : decode cX9_refusalOf 43 = .ok (.aload_n 0, 1) := by decide +kernel
theorem dX9_refusalOf_44 : decode cX9_refusalOf 44 = .ok (.iload_n 1, 1) := by decide +kernel
theorem dX9_refusalOf_45 : decode cX9_refusalOf 45 = .ok (.iload_n 2, 1) := by decide +kernel
theorem dX9_refusalOf_46 : decode cX9_refusalOf 46 = .ok (.invokevirtual 182, 3) := by decide +kernel
theorem dX9_refusalOf_49 : decode cX9_refusalOf 49 = .ok (.ifCond .eq 8, 3) := by decide +kernel
theorem dX9_refusalOf_52 : decode cX9_refusalOf 52 = .ok (.bipush (-9), 2) := by decide +kernel
theorem dX9_refusalOf_54 : decode cX9_refusalOf 54 = .ok (.goto 4, 3) := by decide +kernel
theorem dX9_refusalOf_57 : decode cX9_refusalOf 57 = .ok (.iconst 0, 1) := by decide +kernel
theorem dX9_refusalOf_58 : decode cX9_refusalOf 58 = .ok (.ireturn, 1) := by decide +kernel
theorem dX9_linksChanged_0 : decode cX9_linksChanged 0 = .ok (.aload_n 0, 1) := by decide +kernel
theorem dX9_linksChanged_1 : decode cX9_linksChanged 1 = .ok (.getfield 53, 3) := by decide +kernel
theorem dX9_linksChanged_4 : decode cX9_linksChanged 4 = .ok (.iconst 1, 1) := by decide +kernel
theorem dX9_linksChanged_5 : decode cX9_linksChanged 5 = .ok (.putfield 185, 3) := by decide +kernel
theorem dX9_linksChanged_8 : decode cX9_linksChanged 8 = .ok (.aload_n 0, 1) := by decide +kernel
theorem dX9_linksChanged_9 : decode cX9_linksChanged 9 = .ok (.getfield 53, 3) := by decide +kernel
theorem dX9_linksChanged_12 : decode cX9_linksChanged 12 = .ok (.iconst 1, 1) := by decide +kernel
theorem dX9_linksChanged_13 : decode cX9_linksChanged 13 = .ok (.putfield 186, 3) := by decide +kernel
theorem dX9_linksChanged_16 : decode cX9_linksChanged 16 = .ok (.aload_n 0, 1) := by decide +kernel
theorem dX9_linksChanged_17 : decode cX9_linksChanged 17 = .ok (.getfield 60, 3) := by decide +kernel
theorem dX9_linksChanged_20 : decode cX9_linksChanged 20 = .ok (.iconst 1, 1) := by decide +kernel
theorem dX9_linksChanged_21 : decode cX9_linksChanged 21 = .ok (.putfield 149, 3) := by decide +kernel
theorem dX9_linksChanged_24 : decode cX9_linksChanged 24 = .ok (.return_, 1) := by decide +kernel
theorem dX9_stroke_0 : decode cX9_stroke 0 = .ok (.aload_n 0, 1) := by decide +kernel
theorem dX9_stroke_1 : decode cX9_stroke 1 = .ok (.getfield 10, 3) := by decide +kernel
theorem dX9_stroke_4 : decode cX9_stroke 4 = .ok (.iload_n 1, 1) := by decide +kernel
theorem dX9_stroke_5 : decode cX9_stroke 5 = .ok (.invokevirtual 128, 3) := by decide +kernel
theorem dX9_stroke_8 : decode cX9_stroke 8 = .ok (.ifCond .ne 6, 3) := by decide +kernel
theorem dX9_stroke_11 : decode cX9_stroke 11 = .ok (.bipush (-2), 2) := by decide +kernel
theorem dX9_stroke_13 : decode cX9_stroke 13 = .ok (.ireturn, 1) := by decide +kernel
theorem dX9_stroke_14 : decode cX9_stroke 14 = .ok (.iload_n 2, 1) := by decide +kernel
theorem dX9_stroke_15 : decode cX9_stroke 15 = .ok (.tableswitch 152 0 9 #[53, 63, 73, 83, 93, 104, 113, 122, 132, 142], 53) := by decide +kernel
theorem dX9_stroke_68 : decode cX9_stroke 68 = .ok (.aload_n 0, 1) := by decide +kernel
theorem dX9_stroke_69 : decode cX9_stroke 69 = .ok (.getfield 10, 3) := by decide +kernel
theorem dX9_stroke_72 : decode cX9_stroke 72 = .ok (.getfield 189, 3) := by decide +kernel
theorem dX9_stroke_75 : decode cX9_stroke 75 = .ok (.iload_n 1, 1) := by decide +kernel
theorem dX9_stroke_76 : decode cX9_stroke 76 = .ok (.iaload, 1) := by decide +kernel
theorem dX9_stroke_77 : decode cX9_stroke 77 = .ok (.ireturn, 1) := by decide +kernel
theorem dX9_stroke_78 : decode cX9_stroke 78 = .ok (.aload_n 0, 1) := by decide +kernel
theorem dX9_stroke_79 : decode cX9_stroke 79 = .ok (.getfield 10, 3) := by decide +kernel
theorem dX9_stroke_82 : decode cX9_stroke 82 = .ok (.getfield 192, 3) := by decide +kernel
theorem dX9_stroke_85 : decode cX9_stroke 85 = .ok (.iload_n 1, 1) := by decide +kernel
theorem dX9_stroke_86 : decode cX9_stroke 86 = .ok (.iaload, 1) := by decide +kernel
theorem dX9_stroke_87 : decode cX9_stroke 87 = .ok (.ireturn, 1) := by decide +kernel
theorem dX9_stroke_88 : decode cX9_stroke 88 = .ok (.aload_n 0, 1) := by decide +kernel
theorem dX9_stroke_89 : decode cX9_stroke 89 = .ok (.getfield 10, 3) := by decide +kernel
theorem dX9_stroke_92 : decode cX9_stroke 92 = .ok (.getfield 195, 3) := by decide +kernel
theorem dX9_stroke_95 : decode cX9_stroke 95 = .ok (.iload_n 1, 1) := by decide +kernel
theorem dX9_stroke_96 : decode cX9_stroke 96 = .ok (.iaload, 1) := by decide +kernel
theorem dX9_stroke_97 : decode cX9_stroke 97 = .ok (.ireturn, 1) := by decide +kernel
theorem dX9_stroke_98 : decode cX9_stroke 98 = .ok (.aload_n 0, 1) := by decide +kernel
theorem dX9_stroke_99 : decode cX9_stroke 99 = .ok (.getfield 10, 3) := by decide +kernel
theorem dX9_stroke_102 : decode cX9_stroke 102 = .ok (.getfield 198, 3) := by decide +kernel
theorem dX9_stroke_105 : decode cX9_stroke 105 = .ok (.iload_n 1, 1) := by decide +kernel
theorem dX9_stroke_106 : decode cX9_stroke 106 = .ok (.iaload, 1) := by decide +kernel
theorem dX9_stroke_107 : decode cX9_stroke 107 = .ok (.ireturn, 1) := by decide +kernel
theorem dX9_stroke_108 : decode cX9_stroke 108 = .ok (.aload_n 0, 1) := by decide +kernel
theorem dX9_stroke_109 : decode cX9_stroke 109 = .ok (.getfield 10, 3) := by decide +kernel
theorem dX9_stroke_112 : decode cX9_stroke 112 = .ok (.iload_n 1, 1) := by decide +kernel
theorem dX9_stroke_113 : decode cX9_stroke 113 = .ok (.invokevirtual 142, 3) := by decide +kernel
theorem dX9_stroke_116 : decode cX9_stroke 116 = .ok (.iconst 1, 1) := by decide +kernel
theorem dX9_stroke_117 : decode cX9_stroke 117 = .ok (.iadd, 1) := by decide +kernel
theorem dX9_stroke_118 : decode cX9_stroke 118 = .ok (.ireturn, 1) := by decide +kernel
theorem dX9_stroke_119 : decode cX9_stroke 119 = .ok (.aload_n 0, 1) := by decide +kernel
theorem dX9_stroke_120 : decode cX9_stroke 120 = .ok (.getfield 10, 3) := by decide +kernel
theorem dX9_stroke_123 : decode cX9_stroke 123 = .ok (.iload_n 1, 1) := by decide +kernel
theorem dX9_stroke_124 : decode cX9_stroke 124 = .ok (.invokevirtual 201, 3) := by decide +kernel
theorem dX9_stroke_127 : decode cX9_stroke 127 = .ok (.ireturn, 1) := by decide +kernel
theorem dX9_stroke_128 : decode cX9_stroke 128 = .ok (.aload_n 0, 1) := by decide +kernel
theorem dX9_stroke_129 : decode cX9_stroke 129 = .ok (.getfield 10, 3) := by decide +kernel
theorem dX9_stroke_132 : decode cX9_stroke 132 = .ok (.iload_n 1, 1) := by decide +kernel
theorem dX9_stroke_133 : decode cX9_stroke 133 = .ok (.invokevirtual 204, 3) := by decide +kernel
