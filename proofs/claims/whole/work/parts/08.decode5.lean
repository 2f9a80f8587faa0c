theorem dX13_lend_0 : decode cX13_lend 0 = .ok (.aload_n 0, 1) := by decide +kernel
theorem dX13_lend_1 : decode cX13_lend 1 = .ok (.iconst 0, 1) := by decide +kernel
theorem dX13_lend_2 : decode cX13_lend 2 = .ok (.putfield 1, 3) := by decide +kernel
theorem dX13_lend_5 : decode cX13_lend 5 = .ok (.iload_n 1, 1) := by decide +kernel
theorem dX13_lend_6 : decode cX13_lend 6 = .ok (.iconst 1, 1) := by decide +kernel
theorem dX13_lend_7 : decode cX13_lend 7 = .ok (.iconst 4, 1) := by decide +kernel
theorem dX13_lend_8 : decode cX13_lend 8 = .ok (.invokestatic 204, 3) := by decide +kernel
theorem dX13_lend_11 : decode cX13_lend 11 = .ok (.ifCond .ne 5, 3) := by decide +kernel
theorem dX13_lend_14 : decode cX13_lend 14 = .ok (.iconst (-1), 1) := by decide +kernel
theorem dX13_lend_15 : decode cX13_lend 15 = .ok (.ireturn, 1) := by decide +kernel
theorem dX13_lend_16 : decode cX13_lend 16 = .ok (.aload_n 0, 1) := by decide +kernel
theorem dX13_lend_17 : decode cX13_lend 17 = .ok (.invokevirtual 328, 3) := by decide +kernel
theorem dX13_lend_20 : decode cX13_lend 20 = .ok (.iconst (-1), 1) := by decide +kernel
theorem dX13_lend_21 : decode cX13_lend 21 = .ok (.istore_n 2, 1) := by decide +kernel
theorem dX13_lend_22 : decode cX13_lend 22 = .ok (.aload_n 0, 1) := by decide +kernel
theorem dX13_lend_23 : decode cX13_lend 23 = .ok (.iload_n 1, 1) := by decide +kernel
theorem dX13_lend_24 : decode cX13_lend 24 = .ok (.invokevirtual 389, 3) := by decide +kernel
theorem dX13_lend_27 : decode cX13_lend 27 = .ok (.invokestatic 392, 3) := by decide +kernel
theorem dX13_lend_30 : decode cX13_lend 30 = .ok (.istore_n 3, 1) := by decide +kernel
theorem dX13_lend_31 : decode cX13_lend 31 = .ok (.iconst 0, 1) := by decide +kernel
theorem dX13_lend_32 : decode cX13_lend 32 = .ok (.istore 4, 2) := by decide +kernel
theorem dX13_lend_34 : decode cX13_lend 34 = .ok (.iload 4, 2) := by decide +kernel
theorem dX13_lend_36 : decode cX13_lend 36 = .ok (.aload_n 0, 1) := by decide +kernel
theorem dX13_lend_37 : decode cX13_lend 37 = .ok (.getfield 33, 3) := by decide +kernel
theorem dX13_lend_40 : decode cX13_lend 40 = .ok (.iconst 2, 1) := by decide +kernel
theorem dX13_lend_41 : decode cX13_lend 41 = .ok (.iaload, 1) := by decide +kernel
theorem dX13_lend_42 : decode cX13_lend 42 = .ok (.if_icmp .ge 137, 3) := by decide +kernel
theorem dX13_lend_45 : decode cX13_lend 45 = .ok (.iconst 0, 1) := by decide +kernel
theorem dX13_lend_46 : decode cX13_lend 46 = .ok (.istore 5, 2) := by decide +kernel
theorem dX13_lend_48 : decode cX13_lend 48 = .ok (.iload 5, 2) := by decide +kernel
theorem dX13_lend_50 : decode cX13_lend 50 = .ok (.aload_n 0, 1) := by decide +kernel
theorem dX13_lend_51 : decode cX13_lend 51 = .ok (.getfield 33, 3) := by decide +kernel
theorem dX13_lend_54 : decode cX13_lend 54 = .ok (.iconst 0, 1) := by decide +kernel
theorem dX13_lend_55 : decode cX13_lend 55 = .ok (.iaload, 1) := by decide +kernel
theorem dX13_lend_56 : decode cX13_lend 56 = .ok (.if_icmp .ge 117, 3) := by decide +kernel
theorem dX13_lend_59 : decode cX13_lend 59 = .ok (.iconst 5, 1) := by decide +kernel
theorem dX13_lend_60 : decode cX13_lend 60 = .ok (.iload 4, 2) := by decide +kernel
theorem dX13_lend_62 : decode cX13_lend 62 = .ok (.imul, 1) := by decide +kernel
theorem dX13_lend_63 : decode cX13_lend 63 = .ok (.iload 5, 2) := by decide +kernel
theorem dX13_lend_65 : decode cX13_lend 65 = .ok (.iadd, 1) := by decide +kernel
theorem dX13_lend_66 : decode cX13_lend 66 = .ok (.istore 6, 2) := by decide +kernel
theorem dX13_lend_68 : decode cX13_lend 68 = .ok (.aload_n 0, 1) := by decide +kernel
theorem dX13_lend_69 : decode cX13_lend 69 = .ok (.getfield 59, 3) := by decide +kernel
theorem dX13_lend_72 : decode cX13_lend 72 = .ok (.iload 6, 2) := by decide +kernel
theorem dX13_lend_74 : decode cX13_lend 74 = .ok (.iaload, 1) := by decide +kernel
theorem dX13_lend_75 : decode cX13_lend 75 = .ok (.iconst 1, 1) := by decide +kernel
theorem dX13_lend_76 : decode cX13_lend 76 = .ok (.if_icmp .ne 6, 3) := by decide +kernel
theorem dX13_lend_79 : decode cX13_lend 79 = .ok (.goto 88, 3) := by decide +kernel
theorem dX13_lend_82 : decode cX13_lend 82 = .ok (.aload_n 0, 1) := by decide +kernel
theorem dX13_lend_83 : decode cX13_lend 83 = .ok (.getfield 59, 3) := by decide +kernel
theorem dX13_lend_86 : decode cX13_lend 86 = .ok (.iload 6, 2) := by decide +kernel
theorem dX13_lend_88 : decode cX13_lend 88 = .ok (.iconst 1, 1) := by decide +kernel
theorem dX13_lend_89 : decode cX13_lend 89 = .ok (.iastore, 1) := by decide +kernel
theorem dX13_lend_90 : decode cX13_lend 90 = .ok (.iconst 0, 1) := by decide +kernel
theorem dX13_lend_91 : decode cX13_lend 91 = .ok (.istore 7, 2) := by decide +kernel
theorem dX13_lend_93 : decode cX13_lend 93 = .ok (.iload 7, 2) := by decide +kernel
theorem dX13_lend_95 : decode cX13_lend 95 = .ok (.sipush 256, 3) := by decide +kernel
theorem dX13_lend_98 : decode cX13_lend 98 = .ok (.if_icmp .ge 25, 3) := by decide +kernel
theorem dX13_lend_101 : decode cX13_lend 101 = .ok (.aload_n 0, 1) := by decide +kernel
theorem dX13_lend_102 : decode cX13_lend 102 = .ok (.getfield 56, 3) := by decide +kernel
theorem dX13_lend_105 : decode cX13_lend 105 = .ok (.sipush 256, 3) := by decide +kernel
theorem dX13_lend_108 : decode cX13_lend 108 = .ok (.iload 6, 2) := by decide +kernel
theorem dX13_lend_110 : decode cX13_lend 110 = .ok (.imul, 1) := by decide +kernel
theorem dX13_lend_111 : decode cX13_lend 111 = .ok (.iload 7, 2) := by decide +kernel
theorem dX13_lend_113 : decode cX13_lend 113 = .ok (.iadd, 1) := by decide +kernel
theorem dX13_lend_114 : decode cX13_lend 114 = .ok (.iload 7, 2) := by decide +kernel
theorem dX13_lend_116 : decode cX13_lend 116 = .ok (.iastore, 1) := by decide +kernel
theorem dX13_lend_117 : decode cX13_lend 117 = .ok (.iinc 7 1, 3) := by decide +kernel
theorem dX13_lend_120 : decode cX13_lend 120 = .ok (.goto (-27), 3) := by decide +kernel
theorem dX13_lend_123 : decode cX13_lend 123 = .ok (.aload_n 0, 1) := by decide +kernel
theorem dX13_lend_124 : decode cX13_lend 124 = .ok (.iload_n 1, 1) := by decide +kernel
theorem dX13_lend_125 : decode cX13_lend 125 = .ok (.invokevirtual 389, 3) := by decide +kernel
theorem dX13_lend_128 : decode cX13_lend 128 = .ok (.invokestatic 392, 3) := by decide +kernel
theorem dX13_lend_131 : decode cX13_lend 131 = .ok (.istore 7, 2) := by decide +kernel
theorem dX13_lend_133 : decode cX13_lend 133 = .ok (.aload_n 0, 1) := by decide +kernel
theorem dX13_lend_134 : decode cX13_lend 134 = .ok (.getfield 59, 3) := by decide +kernel
theorem dX13_lend_137 : decode cX13_lend 137 = .ok (.iload 6, 2) := by decide +kernel
theorem dX13_lend_139 : decode cX13_lend 139 = .ok (.iconst 0, 1) := by decide +kernel
theorem dX13_lend_140 : decode cX13_lend 140 = .ok (.iastore, 1) := by decide +kernel
theorem dX13_lend_141 : decode cX13_lend 141 = .ok (.aload_n 0, 1) := by decide +kernel
theorem dX13_lend_142 : decode cX13_lend 142 = .ok (.iconst 1, 1) := by decide +kernel
theorem dX13_lend_143 : decode cX13_lend 143 = .ok (.putfield 65, 3) := by decide +kernel
theorem dX13_lend_146 : decode cX13_lend 146 = .ok (.iload 7, 2) := by decide +kernel
theorem dX13_lend_148 : decode cX13_lend 148 = .ok (.iload_n 3, 1) := by decide +kernel
theorem dX13_lend_149 : decode cX13_lend 149 = .ok (.if_icmp .gt 6, 3) := by decide +kernel
theorem dX13_lend_152 : decode cX13_lend 152 = .ok (.goto 15, 3) := by decide +kernel
theorem dX13_lend_155 : decode cX13_lend 155 = .ok (.iload 7, 2) := by decide +kernel
theorem dX13_lend_157 : decode cX13_lend 157 = .ok (.istore_n 3, 1) := by decide +kernel
theorem dX13_lend_158 : decode cX13_lend 158 = .ok (.bipush 10, 2) := by decide +kernel
theorem dX13_lend_160 : decode cX13_lend 160 = .ok (.iload 4, 2) := by decide +kernel
theorem dX13_lend_162 : decode cX13_lend 162 = .ok (.imul, 1) := by decide +kernel
theorem dX13_lend_163 : decode cX13_lend 163 = .ok (.iload 5, 2) := by decide +kernel
theorem dX13_lend_165 : decode cX13_lend 165 = .ok (.iadd, 1) := by decide +kernel
theorem dX13_lend_166 : decode cX13_lend 166 = .ok (.istore_n 2, 1) := by decide +kernel
theorem dX13_lend_167 : decode cX13_lend 167 = .ok (.iinc 5 1, 3) := by decide +kernel
theorem dX13_lend_170 : decode cX13_lend 170 = .ok (.goto (-122), 3) := by decide +kernel
theorem dX13_lend_173 : decode cX13_lend 173 = .ok (.iinc 4 1, 3) := by decide +kernel
theorem dX13_lend_176 : decode cX13_lend 176 = .ok (.goto (-142), 3) := by decide +kernel
theorem dX13_lend_179 : decode cX13_lend 179 = .ok (.iload_n 2, 1) := by decide +kernel
theorem dX13_lend_180 : decode cX13_lend 180 = .ok (.ireturn, 1) := by decide +kernel
theorem dX13_placesBehind_0 : decode cX13_placesBehind 0 = .ok (.iconst 0, 1) := by decide +kernel
theorem dX13_placesBehind_1 : decode cX13_placesBehind 1 = .ok (.istore 5, 2) := by decide +kernel
theorem dX13_placesBehind_3 : decode cX13_placesBehind 3 = .ok (.iconst 0, 1) := by decide +kernel
theorem dX13_placesBehind_4 : decode cX13_placesBehind 4 = .ok (.istore 6, 2) := by decide +kernel
theorem dX13_placesBehind_6 : decode cX13_placesBehind 6 = .ok (.iload 6, 2) := by decide +kernel
theorem dX13_placesBehind_8 : decode cX13_placesBehind 8 = .ok (.aload_n 0, 1) := by decide +kernel
theorem dX13_placesBehind_9 : decode cX13_placesBehind 9 = .ok (.getfield 33, 3) := by decide +kernel
theorem dX13_placesBehind_12 : decode cX13_placesBehind 12 = .ok (.sipush 437, 3) := by decide +kernel
theorem dX13_placesBehind_15 : decode cX13_placesBehind 15 = .ok (.iaload, 1) := by decide +kernel
theorem dX13_placesBehind_16 : decode cX13_placesBehind 16 = .ok (.if_icmp .gt 93, 3) := by decide +kernel
theorem dX13_placesBehind_19 : decode cX13_placesBehind 19 = .ok (.iload_n 1, 1) := by decide +kernel
theorem dX13_placesBehind_20 : decode cX13_placesBehind 20 = .ok (.iload 6, 2) := by decide +kernel
theorem dX13_placesBehind_22 : decode cX13_placesBehind 22 = .ok (.invokestatic 257, 3) := by decide +kernel
theorem dX13_placesBehind_25 : decode cX13_placesBehind 25 = .ok (.ifCond .ne 6, 3) := by decide +kernel
theorem dX13_placesBehind_28 : decode cX13_placesBehind 28 = .ok (.goto 75, 3) := by decide +kernel
theorem dX13_placesBehind_31 : decode cX13_placesBehind 31 = .ok (.iload 6, 2) := by decide +kernel
theorem dX13_placesBehind_33 : decode cX13_placesBehind 33 = .ok (.aload_n 0, 1) := by decide +kernel
theorem dX13_placesBehind_34 : decode cX13_placesBehind 34 = .ok (.getfield 33, 3) := by decide +kernel
theorem dX13_placesBehind_37 : decode cX13_placesBehind 37 = .ok (.sipush 437, 3) := by decide +kernel
theorem dX13_placesBehind_40 : decode cX13_placesBehind 40 = .ok (.iaload, 1) := by decide +kernel
theorem dX13_placesBehind_41 : decode cX13_placesBehind 41 = .ok (.if_icmp .ge 29, 3) := by decide +kernel
theorem dX13_placesBehind_44 : decode cX13_placesBehind 44 = .ok (.aload_n 0, 1) := by decide +kernel
theorem dX13_placesBehind_45 : decode cX13_placesBehind 45 = .ok (.getfield 33, 3) := by decide +kernel
theorem dX13_placesBehind_48 : decode cX13_placesBehind 48 = .ok (.sipush 438, 3) := by decide +kernel
theorem dX13_placesBehind_51 : decode cX13_placesBehind 51 = .ok (.iload 6, 2) := by decide +kernel
theorem dX13_placesBehind_53 : decode cX13_placesBehind 53 = .ok (.iadd, 1) := by decide +kernel
theorem dX13_placesBehind_54 : decode cX13_placesBehind 54 = .ok (.iaload, 1) := by decide +kernel
theorem dX13_placesBehind_55 : decode cX13_placesBehind 55 = .ok (.iload_n 2, 1) := by decide +kernel
theorem dX13_placesBehind_56 : decode cX13_placesBehind 56 = .ok (.if_icmp .ne 14, 3) := by decide +kernel
theorem dX13_placesBehind_59 : decode cX13_placesBehind 59 = .ok (.iload 5, 2) := by decide +kernel
theorem dX13_placesBehind_61 : decode cX13_placesBehind 61 = .ok (.iconst 1, 1) := by decide +kernel
theorem dX13_placesBehind_62 : decode cX13_placesBehind 62 = .ok (.iload 6, 2) := by decide +kernel
theorem dX13_placesBehind_64 : decode cX13_placesBehind 64 = .ok (.iconst 1, 1) := by decide +kernel
theorem dX13_placesBehind_65 : decode cX13_placesBehind 65 = .ok (.iadd, 1) := by decide +kernel
theorem dX13_placesBehind_66 : decode cX13_placesBehind 66 = .ok (.ishl, 1) := by decide +kernel
theorem dX13_placesBehind_67 : decode cX13_placesBehind 67 = .ok (.ior, 1) := by decide +kernel
theorem dX13_placesBehind_68 : decode cX13_placesBehind 68 = .ok (.istore 5, 2) := by decide +kernel
theorem dX13_placesBehind_70 : decode cX13_placesBehind 70 = .ok (.aload_n 0, 1) := by decide +kernel
theorem dX13_placesBehind_71 : decode cX13_placesBehind 71 = .ok (.getfield 33, 3) := by decide +kernel
theorem dX13_placesBehind_74 : decode cX13_placesBehind 74 = .ok (.bipush 64, 2) := by decide +kernel
theorem dX13_placesBehind_76 : decode cX13_placesBehind 76 = .ok (.iload_n 2, 1) := by decide +kernel
theorem dX13_placesBehind_77 : decode cX13_placesBehind 77 = .ok (.iadd, 1) := by decide +kernel
theorem dX13_placesBehind_78 : decode cX13_placesBehind 78 = .ok (.iaload, 1) := by decide +kernel
theorem dX13_placesBehind_79 : decode cX13_placesBehind 79 = .ok (.iconst 1, 1) := by decide +kernel
theorem dX13_placesBehind_80 : decode cX13_placesBehind 80 = .ok (.if_icmp .ne 23, 3) := by decide +kernel
theorem dX13_placesBehind_83 : decode cX13_placesBehind 83 = .ok (.iload_n 3, 1) := by decide +kernel
theorem dX13_placesBehind_84 : decode cX13_placesBehind 84 = .ok (.iconst 1, 1) := by decide +kernel
theorem dX13_placesBehind_85 : decode cX13_placesBehind 85 = .ok (.iadd, 1) := by decide +kernel
theorem dX13_placesBehind_86 : decode cX13_placesBehind 86 = .ok (.iload 6, 2) := by decide +kernel
theorem dX13_placesBehind_88 : decode cX13_placesBehind 88 = .ok (.isub, 1) := by decide +kernel
theorem dX13_placesBehind_89 : decode cX13_placesBehind 89 = .ok (.iload 4, 2) := by decide +kernel
theorem dX13_placesBehind_91 : decode cX13_placesBehind 91 = .ok (.if_icmp .gt 12, 3) := by decide +kernel
theorem dX13_placesBehind_94 : decode cX13_placesBehind 94 = .ok (.iload 5, 2) := by decide +kernel
theorem dX13_placesBehind_96 : decode cX13_placesBehind 96 = .ok (.iconst 1, 1) := by decide +kernel
theorem dX13_placesBehind_97 : decode cX13_placesBehind 97 = .ok (.iload 6, 2) := by decide +kernel
theorem dX13_placesBehind_99 : decode cX13_placesBehind 99 = .ok (.ishl, 1) := by decide +kernel
theorem dX13_placesBehind_100 : decode cX13_placesBehind 100 = .ok (.ior, 1) := by decide +kernel
theorem dX13_placesBehind_101 : decode cX13_placesBehind 101 = .ok (.istore 5, 2) := by decide +kernel
theorem dX13_placesBehind_103 : decode cX13_placesBehind 103 = .ok (.iinc 6 1, 3) := by decide +kernel
theorem dX13_placesBehind_106 : decode cX13_placesBehind 106 = .ok (.goto (-100), 3) := by decide +kernel
theorem dX13_placesBehind_109 : decode cX13_placesBehind 109 = .ok (.iload 5, 2) := by decide +kernel
theorem dX13_placesBehind_111 : decode cX13_placesBehind 111 = .ok (.ireturn, 1) := by decide +kernel
theorem dX13_mends_0 : decode cX13_mends 0 = .ok (.aload_n 0, 1) := by decide +kernel
theorem dX13_mends_1 : decode cX13_mends 1 = .ok (.aload_n 0, 1) := by decide +kernel
theorem dX13_mends_2 : decode cX13_mends 2 = .ok (.getfield 33, 3) := by decide +kernel
theorem dX13_mends_5 : decode cX13_mends 5 = .ok (.sipush 437, 3) := by decide +kernel
theorem dX13_mends_8 : decode cX13_mends 8 = .ok (.iaload, 1) := by decide +kernel
theorem dX13_mends_9 : decode cX13_mends 9 = .ok (.iload_n 1, 1) := by decide +kernel
theorem dX13_mends_10 : decode cX13_mends 10 = .ok (.iadd, 1) := by decide +kernel
theorem dX13_mends_11 : decode cX13_mends 11 = .ok (.invokevirtual 365, 3) := by decide +kernel
theorem dX13_mends_14 : decode cX13_mends 14 = .ok (.aload_n 0, 1) := by decide +kernel
theorem dX13_mends_15 : decode cX13_mends 15 = .ok (.getfield 99, 3) := by decide +kernel
theorem dX13_mends_18 : decode cX13_mends 18 = .ok (.iconst 0, 1) := by decide +kernel
theorem dX13_mends_19 : decode cX13_mends 19 = .ok (.iconst 1, 1) := by decide +kernel
theorem dX13_mends_20 : decode cX13_mends 20 = .ok (.iastore, 1) := by decide +kernel
theorem dX13_mends_21 : decode cX13_mends 21 = .ok (.aload_n 0, 1) := by decide +kernel
theorem dX13_mends_22 : decode cX13_mends 22 = .ok (.getfield 356, 3) := by decide +kernel
theorem dX13_mends_25 : decode cX13_mends 25 = .ok (.ifCond .lt 229, 3) := by decide +kernel
theorem dX13_mends_28 : decode cX13_mends 28 = .ok (.aload_n 0, 1) := by decide +kernel
theorem dX13_mends_29 : decode cX13_mends 29 = .ok (.getfield 356, 3) := by decide +kernel
theorem dX13_mends_32 : decode cX13_mends 32 = .ok (.aload_n 0, 1) := by decide +kernel
theorem dX13_mends_33 : decode cX13_mends 33 = .ok (.getfield 353, 3) := by decide +kernel
theorem dX13_mends_36 : decode cX13_mends 36 = .ok (.if_icmp .ne 104, 3) := by decide +kernel
theorem dX13_mends_39 : decode cX13_mends 39 = .ok (.aload_n 0, 1) := by decide +kernel
theorem dX13_mends_40 : decode cX13_mends 40 = .ok (.iconst 0, 1) := by decide +kernel
theorem dX13_mends_41 : decode cX13_mends 41 = .ok (.invokevirtual 362, 3) := by decide +kernel
theorem dX13_mends_44 : decode cX13_mends 44 = .ok (.invokestatic 345, 3) := by decide +kernel
theorem dX13_mends_47 : decode cX13_mends 47 = .ok (.istore_n 2, 1) := by decide +kernel
theorem dX13_mends_48 : decode cX13_mends 48 = .ok (.iload_n 2, 1) := by decide +kernel
theorem dX13_mends_49 : decode cX13_mends 49 = .ok (.ifCond .lt 30, 3) := by decide +kernel
theorem dX13_mends_52 : decode cX13_mends 52 = .ok (.aload_n 0, 1) := by decide +kernel
theorem dX13_mends_53 : decode cX13_mends 53 = .ok (.getfield 99, 3) := by decide +kernel
theorem dX13_mends_56 : decode cX13_mends 56 = .ok (.aload_n 0, 1) := by decide +kernel
theorem dX13_mends_57 : decode cX13_mends 57 = .ok (.getfield 356, 3) := by decide +kernel
theorem dX13_mends_60 : decode cX13_mends 60 = .ok (.iaload, 1) := by decide +kernel
theorem dX13_mends_61 : decode cX13_mends 61 = .ok (.aload_n 0, 1) := by decide +kernel
theorem dX13_mends_62 : decode cX13_mends 62 = .ok (.getfield 33, 3) := by decide +kernel
theorem dX13_mends_65 : decode cX13_mends 65 = .ok (.sipush 437, 3) := by decide +kernel
theorem dX13_mends_68 : decode cX13_mends 68 = .ok (.iaload, 1) := by decide +kernel
theorem dX13_mends_69 : decode cX13_mends 69 = .ok (.invokestatic 257, 3) := by decide +kernel
theorem dX13_mends_72 : decode cX13_mends 72 = .ok (.ifCond .eq 7, 3) := by decide +kernel
theorem dX13_mends_75 : decode cX13_mends 75 = .ok (.iconst 1, 1) := by decide +kernel
theorem dX13_mends_76 : decode cX13_mends 76 = .ok (.goto 4, 3) := by decide +kernel
theorem dX13_mends_79 : decode cX13_mends 79 = .ok (.iconst 0, 1) := by decide +kernel
theorem dX13_mends_80 : decode cX13_mends 80 = .ok (.istore_n 3, 1) := by decide +kernel
theorem dX13_mends_81 : decode cX13_mends 81 = .ok (.iconst 1, 1) := by decide +kernel
theorem dX13_mends_82 : decode cX13_mends 82 = .ok (.istore 4, 2) := by decide +kernel
theorem dX13_mends_84 : decode cX13_mends 84 = .ok (.iload 4, 2) := by decide +kernel
theorem dX13_mends_86 : decode cX13_mends 86 = .ok (.aload_n 0, 1) := by decide +kernel
theorem dX13_mends_87 : decode cX13_mends 87 = .ok (.getfield 294, 3) := by decide +kernel
theorem dX13_mends_90 : decode cX13_mends 90 = .ok (.if_icmp .gt 31, 3) := by decide +kernel
theorem dX13_mends_93 : decode cX13_mends 93 = .ok (.iload_n 3, 1) := by decide +kernel
theorem dX13_mends_94 : decode cX13_mends 94 = .ok (.ifCond .eq 27, 3) := by decide +kernel
theorem dX13_mends_97 : decode cX13_mends 97 = .ok (.aload_n 0, 1) := by decide +kernel
theorem dX13_mends_98 : decode cX13_mends 98 = .ok (.iload 4, 2) := by decide +kernel
theorem dX13_mends_100 : decode cX13_mends 100 = .ok (.invokevirtual 362, 3) := by decide +kernel
theorem dX13_mends_103 : decode cX13_mends 103 = .ok (.iconst 1, 1) := by decide +kernel
theorem dX13_mends_104 : decode cX13_mends 104 = .ok (.iload_n 2, 1) := by decide +kernel
theorem dX13_mends_105 : decode cX13_mends 105 = .ok (.ishl, 1) := by decide +kernel
theorem dX13_mends_106 : decode cX13_mends 106 = .ok (.if_icmp .ne 7, 3) := by decide +kernel
theorem dX13_mends_109 : decode cX13_mends 109 = .ok (.iconst 1, 1) := by decide +kernel
theorem dX13_mends_110 : decode cX13_mends 110 = .ok (.goto 4, 3) := by decide +kernel
theorem dX13_mends_113 : decode cX13_mends 113 = .ok (.iconst 0, 1) := by decide +kernel
theorem dX13_mends_114 : decode cX13_mends 114 = .ok (.istore_n 3, 1) := by decide +kernel
theorem dX13_mends_115 : decode cX13_mends 115 = .ok (.iinc 4 1, 3) := by decide +kernel
theorem dX13_mends_118 : decode cX13_mends 118 = .ok (.goto (-34), 3) := by decide +kernel
theorem dX13_mends_121 : decode cX13_mends 121 = .ok (.iload_n 3, 1) := by decide +kernel
theorem dX13_mends_122 : decode cX13_mends 122 = .ok (.ifCond .eq 5, 3) := by decide +kernel
theorem dX13_mends_125 : decode cX13_mends 125 = .ok (.iconst 1, 1) := by decide +kernel
theorem dX13_mends_126 : decode cX13_mends 126 = .ok (.ireturn, 1) := by decide +kernel
theorem dX13_mends_127 : decode cX13_mends 127 = .ok (.aload_n 0, 1) := by decide +kernel
theorem dX13_mends_128 : decode cX13_mends 128 = .ok (.dup, 1) := by decide +kernel
theorem dX13_mends_129 : decode cX13_mends 129 = .ok (.getfield 356, 3) := by decide +kernel
theorem dX13_mends_132 : decode cX13_mends 132 = .ok (.iconst 1, 1) := by decide +kernel
theorem dX13_mends_133 : decode cX13_mends 133 = .ok (.isub, 1) := by decide +kernel
theorem dX13_mends_134 : decode cX13_mends 134 = .ok (.putfield 356, 3) := by decide +kernel
theorem dX13_mends_137 : decode cX13_mends 137 = .ok (.goto (-116), 3) := by decide +kernel
theorem dX13_mends_140 : decode cX13_mends 140 = .ok (.aload_n 0, 1) := by decide +kernel
theorem dX13_mends_141 : decode cX13_mends 141 = .ok (.getfield 87, 3) := by decide +kernel
theorem dX13_mends_144 : decode cX13_mends 144 = .ok (.aload_n 0, 1) := by decide +kernel
theorem dX13_mends_145 : decode cX13_mends 145 = .ok (.getfield 356, 3) := by decide +kernel
theorem dX13_mends_148 : decode cX13_mends 148 = .ok (.iaload, 1) := by decide +kernel
theorem dX13_mends_149 : decode cX13_mends 149 = .ok (.istore_n 2, 1) := by decide +kernel
theorem dX13_mends_150 : decode cX13_mends 150 = .ok (.aload_n 0, 1) := by decide +kernel
theorem dX13_mends_151 : decode cX13_mends 151 = .ok (.getfield 87, 3) := by decide +kernel
theorem dX13_mends_154 : decode cX13_mends 154 = .ok (.aload_n 0, 1) := by decide +kernel
theorem dX13_mends_155 : decode cX13_mends 155 = .ok (.getfield 356, 3) := by decide +kernel
theorem dX13_mends_158 : decode cX13_mends 158 = .ok (.dup2, 1) := by decide +kernel
theorem dX13_mends_159 : decode cX13_mends 159 = .ok (.iaload, 1) := by decide +kernel
theorem dX13_mends_160 : decode cX13_mends 160 = .ok (.iconst 1, 1) := by decide +kernel
theorem dX13_mends_161 : decode cX13_mends 161 = .ok (.iadd, 1) := by decide +kernel
theorem dX13_mends_162 : decode cX13_mends 162 = .ok (.iastore, 1) := by decide +kernel
theorem dX13_mends_163 : decode cX13_mends 163 = .ok (.iload_n 2, 1) := by decide +kernel
theorem dX13_mends_164 : decode cX13_mends 164 = .ok (.aload_n 0, 1) := by decide +kernel
theorem dX13_mends_165 : decode cX13_mends 165 = .ok (.getfield 33, 3) := by decide +kernel
theorem dX13_mends_168 : decode cX13_mends 168 = .ok (.iconst 2, 1) := by decide +kernel
theorem dX13_mends_169 : decode cX13_mends 169 = .ok (.iaload, 1) := by decide +kernel
theorem dX13_mends_170 : decode cX13_mends 170 = .ok (.if_icmp .lt 16, 3) := by decide +kernel
theorem dX13_mends_173 : decode cX13_mends 173 = .ok (.aload_n 0, 1) := by decide +kernel
theorem dX13_mends_174 : decode cX13_mends 174 = .ok (.dup, 1) := by decide +kernel
theorem dX13_mends_175 : decode cX13_mends 175 = .ok (.getfield 356, 3) := by decide +kernel
theorem dX13_mends_178 : decode cX13_mends 178 = .ok (.iconst 1, 1) := by decide +kernel
theorem dX13_mends_179 : decode cX13_mends 179 = .ok (.isub, 1) := by decide +kernel
theorem dX13_mends_180 : decode cX13_mends 180 = .ok (.putfield 356, 3) := by decide +kernel
theorem dX13_mends_183 : decode cX13_mends 183 = .ok (.goto (-162), 3) := by decide +kernel
theorem dX13_mends_186 : decode cX13_mends 186 = .ok (.aload_n 0, 1) := by decide +kernel
theorem dX13_mends_187 : decode cX13_mends 187 = .ok (.aload_n 0, 1) := by decide +kernel
theorem dX13_mends_188 : decode cX13_mends 188 = .ok (.getfield 99, 3) := by decide +kernel
theorem dX13_mends_191 : decode cX13_mends 191 = .ok (.aload_n 0, 1) := by decide +kernel
theorem dX13_mends_192 : decode cX13_mends 192 = .ok (.getfield 356, 3) := by decide +kernel
theorem dX13_mends_195 : decode cX13_mends 195 = .ok (.iaload, 1) := by decide +kernel
theorem dX13_mends_196 : decode cX13_mends 196 = .ok (.iload_n 2, 1) := by decide +kernel
theorem dX13_mends_197 : decode cX13_mends 197 = .ok (.aload_n 0, 1) := by decide +kernel
theorem dX13_mends_198 : decode cX13_mends 198 = .ok (.getfield 356, 3) := by decide +kernel
theorem dX13_mends_201 : decode cX13_mends 201 = .ok (.iload_n 1, 1) := by decide +kernel
theorem dX13_mends_202 : decode cX13_mends 202 = .ok (.invokevirtual 395, 3) := by decide +kernel
theorem dX13_mends_205 : decode cX13_mends 205 = .ok (.istore_n 3, 1) := by decide +kernel
theorem dX13_mends_206 : decode cX13_mends 206 = .ok (.iload_n 3, 1) := by decide +kernel
theorem dX13_mends_207 : decode cX13_mends 207 = .ok (.ifCond .ne 6, 3) := by decide +kernel
theorem dX13_mends_210 : decode cX13_mends 210 = .ok (.goto (-189), 3) := by decide +kernel
theorem dX13_mends_213 : decode cX13_mends 213 = .ok (.aload_n 0, 1) := by decide +kernel
theorem dX13_mends_214 : decode cX13_mends 214 = .ok (.getfield 99, 3) := by decide +kernel
theorem dX13_mends_217 : decode cX13_mends 217 = .ok (.aload_n 0, 1) := by decide +kernel
theorem dX13_mends_218 : decode cX13_mends 218 = .ok (.getfield 356, 3) := by decide +kernel
theorem dX13_mends_221 : decode cX13_mends 221 = .ok (.iconst 1, 1) := by decide +kernel
theorem dX13_mends_222 : decode cX13_mends 222 = .ok (.iadd, 1) := by decide +kernel
theorem dX13_mends_223 : decode cX13_mends 223 = .ok (.iload_n 3, 1) := by decide +kernel
theorem dX13_mends_224 : decode cX13_mends 224 = .ok (.iastore, 1) := by decide +kernel
theorem dX13_mends_225 : decode cX13_mends 225 = .ok (.aload_n 0, 1) := by decide +kernel
theorem dX13_mends_226 : decode cX13_mends 226 = .ok (.iload_n 2, 1) := by decide +kernel
theorem dX13_mends_227 : decode cX13_mends 227 = .ok (.invokevirtual 359, 3) := by decide +kernel
theorem dX13_mends_230 : decode cX13_mends 230 = .ok (.aload_n 0, 1) := by decide +kernel
theorem dX13_mends_231 : decode cX13_mends 231 = .ok (.getfield 356, 3) := by decide +kernel
theorem dX13_mends_234 : decode cX13_mends 234 = .ok (.aload_n 0, 1) := by decide +kernel
theorem dX13_mends_235 : decode cX13_mends 235 = .ok (.getfield 353, 3) := by decide +kernel
theorem dX13_mends_238 : decode cX13_mends 238 = .ok (.if_icmp .ge 13, 3) := by decide +kernel
theorem dX13_mends_241 : decode cX13_mends 241 = .ok (.aload_n 0, 1) := by decide +kernel
theorem dX13_mends_242 : decode cX13_mends 242 = .ok (.getfield 87, 3) := by decide +kernel
theorem dX13_mends_245 : decode cX13_mends 245 = .ok (.aload_n 0, 1) := by decide +kernel
theorem dX13_mends_246 : decode cX13_mends 246 = .ok (.getfield 356, 3) := by decide +kernel
theorem dX13_mends_249 : decode cX13_mends 249 = .ok (.iconst 0, 1) := by decide +kernel
theorem dX13_mends_250 : decode cX13_mends 250 = .ok (.iastore, 1) := by decide +kernel
theorem dX13_mends_251 : decode cX13_mends 251 = .ok (.goto (-230), 3) := by decide +kernel
theorem dX13_mends_254 : decode cX13_mends 254 = .ok (.iconst 0, 1) := by decide +kernel
theorem dX13_mends_255 : decode cX13_mends 255 = .ok (.ireturn, 1) := by decide +kernel
theorem dX13_mend_0 : decode cX13_mend 0 = .ok (.aload_n 0, 1) := by decide +kernel
theorem dX13_mend_1 : decode cX13_mend 1 = .ok (.iconst 0, 1) := by decide +kernel
theorem dX13_mend_2 : decode cX13_mend 2 = .ok (.putfield 1, 3) := by decide +kernel
theorem dX13_mend_5 : decode cX13_mend 5 = .ok (.aload_n 0, 1) := by decide +kernel
theorem dX13_mend_6 : decode cX13_mend 6 = .ok (.getfield 33, 3) := by decide +kernel
theorem dX13_mend_9 : decode cX13_mend 9 = .ok (.sipush 437, 3) := by decide +kernel
theorem dX13_mend_12 : decode cX13_mend 12 = .ok (.iaload, 1) := by decide +kernel
theorem dX13_mend_13 : decode cX13_mend 13 = .ok (.iconst 1, 1) := by decide +kernel
theorem dX13_mend_14 : decode cX13_mend 14 = .ok (.bipush 10, 2) := by decide +kernel
theorem dX13_mend_16 : decode cX13_mend 16 = .ok (.invokestatic 204, 3) := by decide +kernel
theorem dX13_mend_19 : decode cX13_mend 19 = .ok (.ifCond .ne 6, 3) := by decide +kernel
theorem dX13_mend_22 : decode cX13_mend 22 = .ok (.bipush (-2), 2) := by decide +kernel
theorem dX13_mend_24 : decode cX13_mend 24 = .ok (.ireturn, 1) := by decide +kernel
theorem dX13_mend_25 : decode cX13_mend 25 = .ok (.aload_n 0, 1) := by decide +kernel
theorem dX13_mend_26 : decode cX13_mend 26 = .ok (.invokevirtual 328, 3) := by decide +kernel
theorem dX13_mend_29 : decode cX13_mend 29 = .ok (.iconst 0, 1) := by decide +kernel
theorem dX13_mend_30 : decode cX13_mend 30 = .ok (.istore_n 1, 1) := by decide +kernel
theorem dX13_mend_31 : decode cX13_mend 31 = .ok (.iload_n 1, 1) := by decide +kernel
theorem dX13_mend_32 : decode cX13_mend 32 = .ok (.iconst 4, 1) := by decide +kernel
theorem dX13_mend_33 : decode cX13_mend 33 = .ok (.if_icmp .ge 37, 3) := by decide +kernel
theorem dX13_mend_36 : decode cX13_mend 36 = .ok (.aload_n 0, 1) := by decide +kernel
theorem dX13_mend_37 : decode cX13_mend 37 = .ok (.iload_n 1, 1) := by decide +kernel
theorem dX13_mend_38 : decode cX13_mend 38 = .ok (.invokevirtual 399, 3) := by decide +kernel
theorem dX13_mend_41 : decode cX13_mend 41 = .ok (.ifCond .ne 6, 3) := by decide +kernel
theorem dX13_mend_44 : decode cX13_mend 44 = .ok (.goto 20, 3) := by decide +kernel
theorem dX13_mend_47 : decode cX13_mend 47 = .ok (.aload_n 0, 1) := by decide +kernel
theorem dX13_mend_48 : decode cX13_mend 48 = .ok (.aload_n 0, 1) := by decide +kernel
theorem dX13_mend_49 : decode cX13_mend 49 = .ok (.getfield 33, 3) := by decide +kernel
theorem dX13_mend_52 : decode cX13_mend 52 = .ok (.sipush 437, 3) := by decide +kernel
theorem dX13_mend_55 : decode cX13_mend 55 = .ok (.iaload, 1) := by decide +kernel
theorem dX13_mend_56 : decode cX13_mend 56 = .ok (.iload_n 1, 1) := by decide +kernel
theorem dX13_mend_57 : decode cX13_mend 57 = .ok (.iadd, 1) := by decide +kernel
theorem dX13_mend_58 : decode cX13_mend 58 = .ok (.invokevirtual 386, 3) := by decide +kernel
theorem dX13_mend_61 : decode cX13_mend 61 = .ok (.pop, 1) := by decide +kernel
theorem dX13_mend_62 : decode cX13_mend 62 = .ok (.iload_n 1, 1) := by decide +kernel
theorem dX13_mend_63 : decode cX13_mend 63 = .ok (.ireturn, 1) := by decide +kernel
theorem dX13_mend_64 : decode cX13_mend 64 = .ok (.iinc 1 1, 3) := by decide +kernel
theorem dX13_mend_67 : decode cX13_mend 67 = .ok (.goto (-36), 3) := by decide +kernel
theorem dX13_mend_70 : decode cX13_mend 70 = .ok (.iconst (-1), 1) := by decide +kernel
theorem dX13_mend_71 : decode cX13_mend 71 = .ok (.ireturn, 1) := by decide +kernel
theorem dX13_mayBe_0 : decode cX13_mayBe 0 = .ok (.aload_n 0, 1) := by decide +kernel
theorem dX13_mayBe_1 : decode cX13_mayBe 1 = .ok (.getfield 102, 3) := by decide +kernel
theorem dX13_mayBe_4 : decode cX13_mayBe 4 = .ok (.iload_n 1, 1) := by decide +kernel
theorem dX13_mayBe_5 : decode cX13_mayBe 5 = .ok (.iaload, 1) := by decide +kernel
theorem dX13_mayBe_6 : decode cX13_mayBe 6 = .ok (.ifCond .lt 13, 3) := by decide +kernel
theorem dX13_mayBe_9 : decode cX13_mayBe 9 = .ok (.aload_n 0, 1) := by decide +kernel
theorem dX13_mayBe_10 : decode cX13_mayBe 10 = .ok (.getfield 102, 3) := by decide +kernel
theorem dX13_mayBe_13 : decode cX13_mayBe 13 = .ok (.iload_n 1, 1) := by decide +kernel
theorem dX13_mayBe_14 : decode cX13_mayBe 14 = .ok (.iaload, 1) := by decide +kernel
theorem dX13_mayBe_15 : decode cX13_mayBe 15 = .ok (.iload_n 2, 1) := by decide +kernel
theorem dX13_mayBe_16 : decode cX13_mayBe 16 = .ok (.if_icmp .ne 7, 3) := by decide +kernel
theorem dX13_mayBe_19 : decode cX13_mayBe 19 = .ok (.iconst 1, 1) := by decide +kernel
theorem dX13_mayBe_20 : decode cX13_mayBe 20 = .ok (.goto 4, 3) := by decide +kernel
theorem dX13_mayBe_23 : decode cX13_mayBe 23 = .ok (.iconst 0, 1) := by decide +kernel
theorem dX13_mayBe_24 : decode cX13_mayBe 24 = .ok (.ireturn, 1) := by decide +kernel
theorem dX13_countTorn_0 : decode cX13_countTorn 0 = .ok (.iconst 0, 1) := by decide +kernel
theorem dX13_countTorn_1 : decode cX13_countTorn 1 = .ok (.istore_n 2, 1) := by decide +kernel
theorem dX13_countTorn_2 : decode cX13_countTorn 2 = .ok (.iload_n 2, 1) := by decide +kernel
theorem dX13_countTorn_3 : decode cX13_countTorn 3 = .ok (.iload_n 1, 1) := by decide +kernel
theorem dX13_countTorn_4 : decode cX13_countTorn 4 = .ok (.if_icmp .ge 172, 3) := by decide +kernel
theorem dX13_countTorn_7 : decode cX13_countTorn 7 = .ok (.iconst 0, 1) := by decide +kernel
theorem dX13_countTorn_8 : decode cX13_countTorn 8 = .ok (.istore_n 3, 1) := by decide +kernel
theorem dX13_countTorn_9 : decode cX13_countTorn 9 = .ok (.iload_n 3, 1) := by decide +kernel
theorem dX13_countTorn_10 : decode cX13_countTorn 10 = .ok (.iconst 5, 1) := by decide +kernel
theorem dX13_countTorn_11 : decode cX13_countTorn 11 = .ok (.if_icmp .ge 159, 3) := by decide +kernel
theorem dX13_countTorn_14 : decode cX13_countTorn 14 = .ok (.iload_n 2, 1) := by decide +kernel
theorem dX13_countTorn_15 : decode cX13_countTorn 15 = .ok (.ifCond .ne 15, 3) := by decide +kernel
theorem dX13_countTorn_18 : decode cX13_countTorn 18 = .ok (.aload_n 0, 1) := by decide +kernel
theorem dX13_countTorn_19 : decode cX13_countTorn 19 = .ok (.getfield 33, 3) := by decide +kernel
theorem dX13_countTorn_22 : decode cX13_countTorn 22 = .ok (.iconst 5, 1) := by decide +kernel
theorem dX13_countTorn_23 : decode cX13_countTorn 23 = .ok (.iload_n 3, 1) := by decide +kernel
theorem dX13_countTorn_24 : decode cX13_countTorn 24 = .ok (.iadd, 1) := by decide +kernel
theorem dX13_countTorn_25 : decode cX13_countTorn 25 = .ok (.iaload, 1) := by decide +kernel
theorem dX13_countTorn_26 : decode cX13_countTorn 26 = .ok (.i2l, 1) := by decide +kernel
theorem dX13_countTorn_27 : decode cX13_countTorn 27 = .ok (.goto 4, 3) := by decide +kernel
theorem dX13_countTorn_30 : decode cX13_countTorn 30 = .ok (.lconst 0, 1) := by decide +kernel
theorem dX13_countTorn_31 : decode cX13_countTorn 31 = .ok (.lstore 4, 2) := by decide +kernel
theorem dX13_countTorn_33 : decode cX13_countTorn 33 = .ok (.iconst 0, 1) := by decide +kernel
theorem dX13_countTorn_34 : decode cX13_countTorn 34 = .ok (.istore 6, 2) := by decide +kernel
theorem dX13_countTorn_36 : decode cX13_countTorn 36 = .ok (.iload 6, 2) := by decide +kernel
theorem dX13_countTorn_38 : decode cX13_countTorn 38 = .ok (.iconst 5, 1) := by decide +kernel
theorem dX13_countTorn_39 : decode cX13_countTorn 39 = .ok (.if_icmp .ge 53, 3) := by decide +kernel
theorem dX13_countTorn_42 : decode cX13_countTorn 42 = .ok (.iload_n 2, 1) := by decide +kernel
theorem dX13_countTorn_43 : decode cX13_countTorn 43 = .ok (.ifCond .le 49, 3) := by decide +kernel
theorem dX13_countTorn_46 : decode cX13_countTorn 46 = .ok (.lload 4, 2) := by decide +kernel
theorem dX13_countTorn_48 : decode cX13_countTorn 48 = .ok (.aload_n 0, 1) := by decide +kernel
theorem dX13_countTorn_49 : decode cX13_countTorn 49 = .ok (.getfield 33, 3) := by decide +kernel
theorem dX13_countTorn_52 : decode cX13_countTorn 52 = .ok (.bipush 15, 2) := by decide +kernel
theorem dX13_countTorn_54 : decode cX13_countTorn 54 = .ok (.iconst 5, 1) := by decide +kernel
theorem dX13_countTorn_55 : decode cX13_countTorn 55 = .ok (.iload 6, 2) := by decide +kernel
theorem dX13_countTorn_57 : decode cX13_countTorn 57 = .ok (.imul, 1) := by decide +kernel
theorem dX13_countTorn_58 : decode cX13_countTorn 58 = .ok (.iadd, 1) := by decide +kernel
theorem dX13_countTorn_59 : decode cX13_countTorn 59 = .ok (.iload_n 3, 1) := by decide +kernel
theorem dX13_countTorn_60 : decode cX13_countTorn 60 = .ok (.iadd, 1) := by decide +kernel
theorem dX13_countTorn_61 : decode cX13_countTorn 61 = .ok (.iaload, 1) := by decide +kernel
theorem dX13_countTorn_62 : decode cX13_countTorn 62 = .ok (.iconst 1, 1) := by decide +kernel
theorem dX13_countTorn_63 : decode cX13_countTorn 63 = .ok (.if_icmp .ne 19, 3) := by decide +kernel
theorem dX13_countTorn_66 : decode cX13_countTorn 66 = .ok (.aload_n 0, 1) := by decide +kernel
theorem dX13_countTorn_67 : decode cX13_countTorn 67 = .ok (.getfield 111, 3) := by decide +kernel
theorem dX13_countTorn_70 : decode cX13_countTorn 70 = .ok (.iconst 5, 1) := by decide +kernel
theorem dX13_countTorn_71 : decode cX13_countTorn 71 = .ok (.iload_n 2, 1) := by decide +kernel
theorem dX13_countTorn_72 : decode cX13_countTorn 72 = .ok (.iconst 1, 1) := by decide +kernel
theorem dX13_countTorn_73 : decode cX13_countTorn 73 = .ok (.isub, 1) := by decide +kernel
theorem dX13_countTorn_74 : decode cX13_countTorn 74 = .ok (.imul, 1) := by decide +kernel
theorem dX13_countTorn_75 : decode cX13_countTorn 75 = .ok (.iload 6, 2) := by decide +kernel
theorem dX13_countTorn_77 : decode cX13_countTorn 77 = .ok (.iadd, 1) := by decide +kernel
theorem dX13_countTorn_78 : decode cX13_countTorn 78 = .ok (.laload, 1) := by decide +kernel
theorem dX13_countTorn_79 : decode cX13_countTorn 79 = .ok (.goto 4, 3) := by decide +kernel
theorem dX13_countTorn_82 : decode cX13_countTorn 82 = .ok (.lconst 0, 1) := by decide +kernel
theorem dX13_countTorn_83 : decode cX13_countTorn 83 = .ok (.ladd, 1) := by decide +kernel
theorem dX13_countTorn_84 : decode cX13_countTorn 84 = .ok (.lstore 4, 2) := by decide +kernel
theorem dX13_countTorn_86 : decode cX13_countTorn 86 = .ok (.iinc 6 1, 3) := by decide +kernel
theorem dX13_countTorn_89 : decode cX13_countTorn 89 = .ok (.goto (-53), 3) := by decide +kernel
theorem dX13_countTorn_92 : decode cX13_countTorn 92 = .ok (.iconst 0, 1) := by decide +kernel
theorem dX13_countTorn_93 : decode cX13_countTorn 93 = .ok (.istore 6, 2) := by decide +kernel
theorem dX13_countTorn_95 : decode cX13_countTorn 95 = .ok (.iconst 0, 1) := by decide +kernel
theorem dX13_countTorn_96 : decode cX13_countTorn 96 = .ok (.istore 7, 2) := by decide +kernel
theorem dX13_countTorn_98 : decode cX13_countTorn 98 = .ok (.iload 7, 2) := by decide +kernel
theorem dX13_countTorn_100 : decode cX13_countTorn 100 = .ok (.aload_n 0, 1) := by decide +kernel
theorem dX13_countTorn_101 : decode cX13_countTorn 101 = .ok (.getfield 33, 3) := by decide +kernel
theorem dX13_countTorn_104 : decode cX13_countTorn 104 = .ok (.iconst 2, 1) := by decide +kernel
theorem dX13_countTorn_105 : decode cX13_countTorn 105 = .ok (.iaload, 1) := by decide +kernel
theorem dX13_countTorn_106 : decode cX13_countTorn 106 = .ok (.if_icmp .ge 42, 3) := by decide +kernel
theorem dX13_countTorn_109 : decode cX13_countTorn 109 = .ok (.iload 6, 2) := by decide +kernel
theorem dX13_countTorn_111 : decode cX13_countTorn 111 = .ok (.aload_n 0, 1) := by decide +kernel
theorem dX13_countTorn_112 : decode cX13_countTorn 112 = .ok (.iload_n 2, 1) := by decide +kernel
theorem dX13_countTorn_113 : decode cX13_countTorn 113 = .ok (.iload 7, 2) := by decide +kernel
theorem dX13_countTorn_115 : decode cX13_countTorn 115 = .ok (.invokevirtual 402, 3) := by decide +kernel
theorem dX13_countTorn_118 : decode cX13_countTorn 118 = .ok (.ifCond .eq 20, 3) := by decide +kernel
theorem dX13_countTorn_121 : decode cX13_countTorn 121 = .ok (.aload_n 0, 1) := by decide +kernel
theorem dX13_countTorn_122 : decode cX13_countTorn 122 = .ok (.getfield 33, 3) := by decide +kernel
theorem dX13_countTorn_125 : decode cX13_countTorn 125 = .ok (.bipush 72, 2) := by decide +kernel
theorem dX13_countTorn_127 : decode cX13_countTorn 127 = .ok (.iconst 5, 1) := by decide +kernel
theorem dX13_countTorn_128 : decode cX13_countTorn 128 = .ok (.iload 7, 2) := by decide +kernel
theorem dX13_countTorn_130 : decode cX13_countTorn 130 = .ok (.imul, 1) := by decide +kernel
theorem dX13_countTorn_131 : decode cX13_countTorn 131 = .ok (.iadd, 1) := by decide +kernel
theorem dX13_countTorn_132 : decode cX13_countTorn 132 = .ok (.iload_n 3, 1) := by decide +kernel
theorem dX13_countTorn_133 : decode cX13_countTorn 133 = .ok (.iadd, 1) := by decide +kernel
theorem dX13_countTorn_134 : decode cX13_countTorn 134 = .ok (.iaload, 1) := by decide +kernel
theorem dX13_countTorn_135 : decode cX13_countTorn 135 = .ok (.goto 4, 3) := by decide +kernel
theorem dX13_countTorn_138 : decode cX13_countTorn 138 = .ok (.iconst 0, 1) := by decide +kernel
theorem dX13_countTorn_139 : decode cX13_countTorn 139 = .ok (.iadd, 1) := by decide +kernel
theorem dX13_countTorn_140 : decode cX13_countTorn 140 = .ok (.istore 6, 2) := by decide +kernel
theorem dX13_countTorn_142 : decode cX13_countTorn 142 = .ok (.iinc 7 1, 3) := by decide +kernel
theorem dX13_countTorn_145 : decode cX13_countTorn 145 = .ok (.goto (-47), 3) := by decide +kernel
theorem dX13_countTorn_148 : decode cX13_countTorn 148 = .ok (.aload_n 0, 1) := by decide +kernel
theorem dX13_countTorn_149 : decode cX13_countTorn 149 = .ok (.getfield 111, 3) := by decide +kernel
theorem dX13_countTorn_152 : decode cX13_countTorn 152 = .ok (.iconst 5, 1) := by decide +kernel
theorem dX13_countTorn_153 : decode cX13_countTorn 153 = .ok (.iload_n 2, 1) := by decide +kernel
theorem dX13_countTorn_154 : decode cX13_countTorn 154 = .ok (.imul, 1) := by decide +kernel
theorem dX13_countTorn_155 : decode cX13_countTorn 155 = .ok (.iload_n 3, 1) := by decide +kernel
theorem dX13_countTorn_156 : decode cX13_countTorn 156 = .ok (.iadd, 1) := by decide +kernel
theorem dX13_countTorn_157 : decode cX13_countTorn 157 = .ok (.lload 4, 2) := by decide +kernel
theorem dX13_countTorn_159 : decode cX13_countTorn 159 = .ok (.iload 6, 2) := by decide +kernel
theorem dX13_countTorn_161 : decode cX13_countTorn 161 = .ok (.i2l, 1) := by decide +kernel
theorem dX13_countTorn_162 : decode cX13_countTorn 162 = .ok (.lmul, 1) := by decide +kernel
theorem dX13_countTorn_163 : decode cX13_countTorn 163 = .ok (.lastore, 1) := by decide +kernel
theorem dX13_countTorn_164 : decode cX13_countTorn 164 = .ok (.iinc 3 1, 3) := by decide +kernel
theorem dX13_countTorn_167 : decode cX13_countTorn 167 = .ok (.goto (-158), 3) := by decide +kernel
theorem dX13_countTorn_170 : decode cX13_countTorn 170 = .ok (.iinc 2 1, 3) := by decide +kernel
theorem dX13_countTorn_173 : decode cX13_countTorn 173 = .ok (.goto (-171), 3) := by decide +kernel
theorem dX13_countTorn_176 : decode cX13_countTorn 176 = .ok (.lconst 0, 1) := by decide +kernel
theorem dX13_countTorn_177 : decode cX13_countTorn 177 = .ok (.lstore_n 2, 1) := by decide +kernel
theorem dX13_countTorn_178 : decode cX13_countTorn 178 = .ok (.iconst 0, 1) := by decide +kernel
theorem dX13_countTorn_179 : decode cX13_countTorn 179 = .ok (.istore 4, 2) := by decide +kernel
theorem dX13_countTorn_181 : decode cX13_countTorn 181 = .ok (.iload 4, 2) := by decide +kernel
theorem dX13_countTorn_183 : decode cX13_countTorn 183 = .ok (.iconst 5, 1) := by decide +kernel
theorem dX13_countTorn_184 : decode cX13_countTorn 184 = .ok (.if_icmp .ge 43, 3) := by decide +kernel
theorem dX13_countTorn_187 : decode cX13_countTorn 187 = .ok (.lload_n 2, 1) := by decide +kernel
theorem dX13_countTorn_188 : decode cX13_countTorn 188 = .ok (.aload_n 0, 1) := by decide +kernel
theorem dX13_countTorn_189 : decode cX13_countTorn 189 = .ok (.getfield 33, 3) := by decide +kernel
theorem dX13_countTorn_192 : decode cX13_countTorn 192 = .ok (.bipush 10, 2) := by decide +kernel
theorem dX13_countTorn_194 : decode cX13_countTorn 194 = .ok (.iload 4, 2) := by decide +kernel
theorem dX13_countTorn_196 : decode cX13_countTorn 196 = .ok (.iadd, 1) := by decide +kernel
theorem dX13_countTorn_197 : decode cX13_countTorn 197 = .ok (.iaload, 1) := by decide +kernel
theorem dX13_countTorn_198 : decode cX13_countTorn 198 = .ok (.iconst 1, 1) := by decide +kernel
theorem dX13_countTorn_199 : decode cX13_countTorn 199 = .ok (.if_icmp .ne 19, 3) := by decide +kernel
theorem dX13_countTorn_202 : decode cX13_countTorn 202 = .ok (.aload_n 0, 1) := by decide +kernel
theorem dX13_countTorn_203 : decode cX13_countTorn 203 = .ok (.getfield 111, 3) := by decide +kernel
theorem dX13_countTorn_206 : decode cX13_countTorn 206 = .ok (.iconst 5, 1) := by decide +kernel
theorem dX13_countTorn_207 : decode cX13_countTorn 207 = .ok (.iload_n 1, 1) := by decide +kernel
theorem dX13_countTorn_208 : decode cX13_countTorn 208 = .ok (.iconst 1, 1) := by decide +kernel
theorem dX13_countTorn_209 : decode cX13_countTorn 209 = .ok (.isub, 1) := by decide +kernel
theorem dX13_countTorn_210 : decode cX13_countTorn 210 = .ok (.imul, 1) := by decide +kernel
theorem dX13_countTorn_211 : decode cX13_countTorn 211 = .ok (.iload 4, 2) := by decide +kernel
theorem dX13_countTorn_213 : decode cX13_countTorn 213 = .ok (.iadd, 1) := by decide +kernel
theorem dX13_countTorn_214 : decode cX13_countTorn 214 = .ok (.laload, 1) := by decide +kernel
theorem dX13_countTorn_215 : decode cX13_countTorn 215 = .ok (.goto 4, 3) := by decide +kernel
theorem dX13_countTorn_218 : decode cX13_countTorn 218 = .ok (.lconst 0, 1) := by decide +kernel
theorem dX13_countTorn_219 : decode cX13_countTorn 219 = .ok (.ladd, 1) := by decide +kernel
theorem dX13_countTorn_220 : decode cX13_countTorn 220 = .ok (.lstore_n 2, 1) := by decide +kernel
theorem dX13_countTorn_221 : decode cX13_countTorn 221 = .ok (.iinc 4 1, 3) := by decide +kernel
theorem dX13_countTorn_224 : decode cX13_countTorn 224 = .ok (.goto (-43), 3) := by decide +kernel
theorem dX13_countTorn_227 : decode cX13_countTorn 227 = .ok (.lload_n 2, 1) := by decide +kernel
theorem dX13_countTorn_228 : decode cX13_countTorn 228 = .ok (.lreturn, 1) := by decide +kernel
theorem dX13_meantTorn_0 : decode cX13_meantTorn 0 = .ok (.ldc2_w 316, 3) := by decide +kernel
theorem dX13_meantTorn_3 : decode cX13_meantTorn 3 = .ok (.lstore_n 2, 1) := by decide +kernel
theorem dX13_meantTorn_4 : decode cX13_meantTorn 4 = .ok (.iconst 0, 1) := by decide +kernel
theorem dX13_meantTorn_5 : decode cX13_meantTorn 5 = .ok (.istore 4, 2) := by decide +kernel
theorem dX13_meantTorn_7 : decode cX13_meantTorn 7 = .ok (.iload 4, 2) := by decide +kernel
theorem dX13_meantTorn_9 : decode cX13_meantTorn 9 = .ok (.iload_n 1, 1) := by decide +kernel
theorem dX13_meantTorn_10 : decode cX13_meantTorn 10 = .ok (.if_icmp .ge 58, 3) := by decide +kernel
theorem dX13_meantTorn_13 : decode cX13_meantTorn 13 = .ok (.lconst 0, 1) := by decide +kernel
theorem dX13_meantTorn_14 : decode cX13_meantTorn 14 = .ok (.lstore 5, 2) := by decide +kernel
theorem dX13_meantTorn_16 : decode cX13_meantTorn 16 = .ok (.iconst 0, 1) := by decide +kernel
theorem dX13_meantTorn_17 : decode cX13_meantTorn 17 = .ok (.istore 7, 2) := by decide +kernel
theorem dX13_meantTorn_19 : decode cX13_meantTorn 19 = .ok (.iload 7, 2) := by decide +kernel
theorem dX13_meantTorn_21 : decode cX13_meantTorn 21 = .ok (.aload_n 0, 1) := by decide +kernel
theorem dX13_meantTorn_22 : decode cX13_meantTorn 22 = .ok (.getfield 33, 3) := by decide +kernel
theorem dX13_meantTorn_25 : decode cX13_meantTorn 25 = .ok (.iconst 2, 1) := by decide +kernel
theorem dX13_meantTorn_26 : decode cX13_meantTorn 26 = .ok (.iaload, 1) := by decide +kernel
theorem dX13_meantTorn_27 : decode cX13_meantTorn 27 = .ok (.if_icmp .ge 32, 3) := by decide +kernel
theorem dX13_meantTorn_30 : decode cX13_meantTorn 30 = .ok (.aload_n 0, 1) := by decide +kernel
theorem dX13_meantTorn_31 : decode cX13_meantTorn 31 = .ok (.iload 4, 2) := by decide +kernel
theorem dX13_meantTorn_33 : decode cX13_meantTorn 33 = .ok (.iload 7, 2) := by decide +kernel
theorem dX13_meantTorn_35 : decode cX13_meantTorn 35 = .ok (.invokevirtual 402, 3) := by decide +kernel
theorem dX13_meantTorn_38 : decode cX13_meantTorn 38 = .ok (.ifCond .eq 15, 3) := by decide +kernel
theorem dX13_meantTorn_41 : decode cX13_meantTorn 41 = .ok (.lload 5, 2) := by decide +kernel
theorem dX13_meantTorn_43 : decode cX13_meantTorn 43 = .ok (.aload_n 0, 1) := by decide +kernel
theorem dX13_meantTorn_44 : decode cX13_meantTorn 44 = .ok (.lload_n 2, 1) := by decide +kernel
theorem dX13_meantTorn_45 : decode cX13_meantTorn 45 = .ok (.iload 7, 2) := by decide +kernel
theorem dX13_meantTorn_47 : decode cX13_meantTorn 47 = .ok (.invokevirtual 320, 3) := by decide +kernel
theorem dX13_meantTorn_50 : decode cX13_meantTorn 50 = .ok (.lor, 1) := by decide +kernel
theorem dX13_meantTorn_51 : decode cX13_meantTorn 51 = .ok (.lstore 5, 2) := by decide +kernel
theorem dX13_meantTorn_53 : decode cX13_meantTorn 53 = .ok (.iinc 7 1, 3) := by decide +kernel
theorem dX13_meantTorn_56 : decode cX13_meantTorn 56 = .ok (.goto (-37), 3) := by decide +kernel
theorem dX13_meantTorn_59 : decode cX13_meantTorn 59 = .ok (.lload 5, 2) := by decide +kernel
theorem dX13_meantTorn_61 : decode cX13_meantTorn 61 = .ok (.lstore_n 2, 1) := by decide +kernel
theorem dX13_meantTorn_62 : decode cX13_meantTorn 62 = .ok (.iinc 4 1, 3) := by decide +kernel
theorem dX13_meantTorn_65 : decode cX13_meantTorn 65 = .ok (.goto (-58), 3) := by decide +kernel
theorem dX13_meantTorn_68 : decode cX13_meantTorn 68 = .ok (.aload_n 0, 1) := by decide +kernel
theorem dX13_meantTorn_69 : decode cX13_meantTorn 69 = .ok (.lload_n 2, 1) := by decide +kernel
theorem dX13_meantTorn_70 : decode cX13_meantTorn 70 = .ok (.invokevirtual 324, 3) := by decide +kernel
theorem dX13_meantTorn_73 : decode cX13_meantTorn 73 = .ok (.ireturn, 1) := by decide +kernel
theorem dX13_likely_0 : decode cX13_likely 0 = .ok (.iconst 0, 1) := by decide +kernel
theorem dX13_likely_1 : decode cX13_likely 1 = .ok (.istore_n 2, 1) := by decide +kernel
theorem dX13_likely_2 : decode cX13_likely 2 = .ok (.iload_n 2, 1) := by decide +kernel
theorem dX13_likely_3 : decode cX13_likely 3 = .ok (.iconst 5, 1) := by decide +kernel
theorem dX13_likely_4 : decode cX13_likely 4 = .ok (.if_icmp .ge 29, 3) := by decide +kernel
theorem dX13_likely_7 : decode cX13_likely 7 = .ok (.aload_n 0, 1) := by decide +kernel
theorem dX13_likely_8 : decode cX13_likely 8 = .ok (.getfield 114, 3) := by decide +kernel
theorem dX13_likely_11 : decode cX13_likely 11 = .ok (.iconst 5, 1) := by decide +kernel
theorem dX13_likely_12 : decode cX13_likely 12 = .ok (.iload_n 1, 1) := by decide +kernel
theorem dX13_likely_13 : decode cX13_likely 13 = .ok (.imul, 1) := by decide +kernel
theorem dX13_likely_14 : decode cX13_likely 14 = .ok (.iload_n 2, 1) := by decide +kernel
theorem dX13_likely_15 : decode cX13_likely 15 = .ok (.iadd, 1) := by decide +kernel
theorem dX13_likely_16 : decode cX13_likely 16 = .ok (.aload_n 0, 1) := by decide +kernel
theorem dX13_likely_17 : decode cX13_likely 17 = .ok (.getfield 33, 3) := by decide +kernel
theorem dX13_likely_20 : decode cX13_likely 20 = .ok (.bipush 10, 2) := by decide +kernel
theorem dX13_likely_22 : decode cX13_likely 22 = .ok (.iload_n 2, 1) := by decide +kernel
theorem dX13_likely_23 : decode cX13_likely 23 = .ok (.iadd, 1) := by decide +kernel
theorem dX13_likely_24 : decode cX13_likely 24 = .ok (.iaload, 1) := by decide +kernel
theorem dX13_likely_25 : decode cX13_likely 25 = .ok (.i2l, 1) := by decide +kernel
theorem dX13_likely_26 : decode cX13_likely 26 = .ok (.lastore, 1) := by decide +kernel
theorem dX13_likely_27 : decode cX13_likely 27 = .ok (.iinc 2 1, 3) := by decide +kernel
theorem dX13_likely_30 : decode cX13_likely 30 = .ok (.goto (-28), 3) := by decide +kernel
theorem dX13_likely_33 : decode cX13_likely 33 = .ok (.iload_n 1, 1) := by decide +kernel
theorem dX13_likely_34 : decode cX13_likely 34 = .ok (.iconst 1, 1) := by decide +kernel
theorem dX13_likely_35 : decode cX13_likely 35 = .ok (.isub, 1) := by decide +kernel
theorem dX13_likely_36 : decode cX13_likely 36 = .ok (.istore_n 2, 1) := by decide +kernel
theorem dX13_likely_37 : decode cX13_likely 37 = .ok (.iload_n 2, 1) := by decide +kernel
theorem dX13_likely_38 : decode cX13_likely 38 = .ok (.ifCond .le 38, 3) := by decide +kernel
theorem dX13_likely_41 : decode cX13_likely 41 = .ok (.iconst 0, 1) := by decide +kernel
theorem dX13_likely_42 : decode cX13_likely 42 = .ok (.istore_n 3, 1) := by decide +kernel
theorem dX13_likely_43 : decode cX13_likely 43 = .ok (.iload_n 3, 1) := by decide +kernel
theorem dX13_likely_44 : decode cX13_likely 44 = .ok (.iconst 5, 1) := by decide +kernel
theorem dX13_likely_45 : decode cX13_likely 45 = .ok (.if_icmp .ge 25, 3) := by decide +kernel
theorem dX13_likely_48 : decode cX13_likely 48 = .ok (.aload_n 0, 1) := by decide +kernel
theorem dX13_likely_49 : decode cX13_likely 49 = .ok (.getfield 114, 3) := by decide +kernel
theorem dX13_likely_52 : decode cX13_likely 52 = .ok (.iconst 5, 1) := by decide +kernel
theorem dX13_likely_53 : decode cX13_likely 53 = .ok (.iload_n 2, 1) := by decide +kernel
theorem dX13_likely_54 : decode cX13_likely 54 = .ok (.imul, 1) := by decide +kernel
theorem dX13_likely_55 : decode cX13_likely 55 = .ok (.iload_n 3, 1) := by decide +kernel
theorem dX13_likely_56 : decode cX13_likely 56 = .ok (.iadd, 1) := by decide +kernel
theorem dX13_likely_57 : decode cX13_likely 57 = .ok (.aload_n 0, 1) := by decide +kernel
theorem dX13_likely_58 : decode cX13_likely 58 = .ok (.iload_n 2, 1) := by decide +kernel
theorem dX13_likely_59 : decode cX13_likely 59 = .ok (.iload_n 3, 1) := by decide +kernel
theorem dX13_likely_60 : decode cX13_likely 60 = .ok (.invokevirtual 405, 3) := by decide +kernel
theorem dX13_likely_63 : decode cX13_likely 63 = .ok (.lastore, 1) := by decide +kernel
theorem dX13_likely_64 : decode cX13_likely 64 = .ok (.iinc 3 1, 3) := by decide +kernel
theorem dX13_likely_67 : decode cX13_likely 67 = .ok (.goto (-24), 3) := by decide +kernel
theorem dX13_likely_70 : decode cX13_likely 70 = .ok (.iinc 2 (-1), 3) := by decide +kernel
theorem dX13_likely_73 : decode cX13_likely 73 = .ok (.goto (-36), 3) := by decide +kernel
theorem dX13_likely_76 : decode cX13_likely 76 = .ok (.aload_n 0, 1) := by decide +kernel
theorem dX13_likely_77 : decode cX13_likely 77 = .ok (.iconst 0, 1) := by decide +kernel
theorem dX13_likely_78 : decode cX13_likely 78 = .ok (.putfield 409, 3) := by decide +kernel
theorem dX13_likely_81 : decode cX13_likely 81 = .ok (.iconst 0, 1) := by decide +kernel
theorem dX13_likely_82 : decode cX13_likely 82 = .ok (.istore_n 2, 1) := by decide +kernel
theorem dX13_likely_83 : decode cX13_likely 83 = .ok (.lconst 0, 1) := by decide +kernel
theorem dX13_likely_84 : decode cX13_likely 84 = .ok (.lstore_n 3, 1) := by decide +kernel
theorem dX13_likely_85 : decode cX13_likely 85 = .ok (.iconst 0, 1) := by decide +kernel
theorem dX13_likely_86 : decode cX13_likely 86 = .ok (.istore 5, 2) := by decide +kernel
theorem dX13_likely_88 : decode cX13_likely 88 = .ok (.iload 5, 2) := by decide +kernel
theorem dX13_likely_90 : decode cX13_likely 90 = .ok (.iload_n 1, 1) := by decide +kernel
theorem dX13_likely_91 : decode cX13_likely 91 = .ok (.if_icmp .ge 240, 3) := by decide +kernel
theorem dX13_likely_94 : decode cX13_likely 94 = .ok (.lconst 0, 1) := by decide +kernel
theorem dX13_likely_95 : decode cX13_likely 95 = .ok (.lstore 6, 2) := by decide +kernel
theorem dX13_likely_97 : decode cX13_likely 97 = .ok (.iconst (-1), 1) := by decide +kernel
theorem dX13_likely_98 : decode cX13_likely 98 = .ok (.istore 8, 2) := by decide +kernel
theorem dX13_likely_100 : decode cX13_likely 100 = .ok (.iconst 0, 1) := by decide +kernel
theorem dX13_likely_101 : decode cX13_likely 101 = .ok (.istore 9, 2) := by decide +kernel
theorem dX13_likely_103 : decode cX13_likely 103 = .ok (.iconst 0, 1) := by decide +kernel
theorem dX13_likely_104 : decode cX13_likely 104 = .ok (.istore 10, 2) := by decide +kernel
theorem dX13_likely_106 : decode cX13_likely 106 = .ok (.iload 10, 2) := by decide +kernel
theorem dX13_likely_108 : decode cX13_likely 108 = .ok (.aload_n 0, 1) := by decide +kernel
theorem dX13_likely_109 : decode cX13_likely 109 = .ok (.getfield 33, 3) := by decide +kernel
theorem dX13_likely_112 : decode cX13_likely 112 = .ok (.iconst 2, 1) := by decide +kernel
theorem dX13_likely_113 : decode cX13_likely 113 = .ok (.iaload, 1) := by decide +kernel
theorem dX13_likely_114 : decode cX13_likely 114 = .ok (.if_icmp .ge 180, 3) := by decide +kernel
theorem dX13_likely_117 : decode cX13_likely 117 = .ok (.aload_n 0, 1) := by decide +kernel
theorem dX13_likely_118 : decode cX13_likely 118 = .ok (.iload 5, 2) := by decide +kernel
theorem dX13_likely_120 : decode cX13_likely 120 = .ok (.iload 10, 2) := by decide +kernel
theorem dX13_likely_122 : decode cX13_likely 122 = .ok (.invokevirtual 402, 3) := by decide +kernel
theorem dX13_likely_125 : decode cX13_likely 125 = .ok (.ifCond .ne 6, 3) := by decide +kernel
theorem dX13_likely_128 : decode cX13_likely 128 = .ok (.goto 160, 3) := by decide +kernel
theorem dX13_likely_131 : decode cX13_likely 131 = .ok (.lconst 0, 1) := by decide +kernel
theorem dX13_likely_132 : decode cX13_likely 132 = .ok (.lstore 11, 2) := by decide +kernel
theorem dX13_likely_134 : decode cX13_likely 134 = .ok (.iconst 0, 1) := by decide +kernel
theorem dX13_likely_135 : decode cX13_likely 135 = .ok (.istore 13, 2) := by decide +kernel
theorem dX13_likely_137 : decode cX13_likely 137 = .ok (.iconst 0, 1) := by decide +kernel
theorem dX13_likely_138 : decode cX13_likely 138 = .ok (.istore 14, 2) := by decide +kernel
theorem dX13_likely_140 : decode cX13_likely 140 = .ok (.iload 14, 2) := by decide +kernel
theorem dX13_likely_142 : decode cX13_likely 142 = .ok (.iconst 5, 1) := by decide +kernel
theorem dX13_likely_143 : decode cX13_likely 143 = .ok (.if_icmp .ge 92, 3) := by decide +kernel
theorem dX13_likely_146 : decode cX13_likely 146 = .ok (.aload_n 0, 1) := by decide +kernel
theorem dX13_likely_147 : decode cX13_likely 147 = .ok (.getfield 33, 3) := by decide +kernel
theorem dX13_likely_150 : decode cX13_likely 150 = .ok (.bipush 72, 2) := by decide +kernel
theorem dX13_likely_152 : decode cX13_likely 152 = .ok (.iconst 5, 1) := by decide +kernel
theorem dX13_likely_153 : decode cX13_likely 153 = .ok (.iload 10, 2) := by decide +kernel
theorem dX13_likely_155 : decode cX13_likely 155 = .ok (.imul, 1) := by decide +kernel
theorem dX13_likely_156 : decode cX13_likely 156 = .ok (.iadd, 1) := by decide +kernel
theorem dX13_likely_157 : decode cX13_likely 157 = .ok (.iload 14, 2) := by decide +kernel
theorem dX13_likely_159 : decode cX13_likely 159 = .ok (.iadd, 1) := by decide +kernel
theorem dX13_likely_160 : decode cX13_likely 160 = .ok (.iaload, 1) := by decide +kernel
theorem dX13_likely_161 : decode cX13_likely 161 = .ok (.ifCond .eq 68, 3) := by decide +kernel
theorem dX13_likely_164 : decode cX13_likely 164 = .ok (.aload_n 0, 1) := by decide +kernel
theorem dX13_likely_165 : decode cX13_likely 165 = .ok (.iload_n 2, 1) := by decide +kernel
theorem dX13_likely_166 : decode cX13_likely 166 = .ok (.iload 5, 2) := by decide +kernel
theorem dX13_likely_168 : decode cX13_likely 168 = .ok (.iload 14, 2) := by decide +kernel
theorem dX13_likely_170 : decode cX13_likely 170 = .ok (.invokevirtual 412, 3) := by decide +kernel
theorem dX13_likely_173 : decode cX13_likely 173 = .ok (.ifCond .ne 6, 3) := by decide +kernel
theorem dX13_likely_176 : decode cX13_likely 176 = .ok (.goto 53, 3) := by decide +kernel
theorem dX13_likely_179 : decode cX13_likely 179 = .ok (.iload 13, 2) := by decide +kernel
theorem dX13_likely_181 : decode cX13_likely 181 = .ok (.iconst 1, 1) := by decide +kernel
theorem dX13_likely_182 : decode cX13_likely 182 = .ok (.iload 14, 2) := by decide +kernel
theorem dX13_likely_184 : decode cX13_likely 184 = .ok (.ishl, 1) := by decide +kernel
theorem dX13_likely_185 : decode cX13_likely 185 = .ok (.ior, 1) := by decide +kernel
theorem dX13_likely_186 : decode cX13_likely 186 = .ok (.istore 13, 2) := by decide +kernel
theorem dX13_likely_188 : decode cX13_likely 188 = .ok (.aload_n 0, 1) := by decide +kernel
theorem dX13_likely_189 : decode cX13_likely 189 = .ok (.getfield 114, 3) := by decide +kernel
theorem dX13_likely_192 : decode cX13_likely 192 = .ok (.iconst 5, 1) := by decide +kernel
theorem dX13_likely_193 : decode cX13_likely 193 = .ok (.iload 5, 2) := by decide +kernel
theorem dX13_likely_195 : decode cX13_likely 195 = .ok (.iconst 1, 1) := by decide +kernel
theorem dX13_likely_196 : decode cX13_likely 196 = .ok (.iadd, 1) := by decide +kernel
theorem dX13_likely_197 : decode cX13_likely 197 = .ok (.imul, 1) := by decide +kernel
theorem dX13_likely_198 : decode cX13_likely 198 = .ok (.iload 14, 2) := by decide +kernel
theorem dX13_likely_200 : decode cX13_likely 200 = .ok (.iadd, 1) := by decide +kernel
theorem dX13_likely_201 : decode cX13_likely 201 = .ok (.laload, 1) := by decide +kernel
theorem dX13_likely_202 : decode cX13_likely 202 = .ok (.lload 11, 2) := by decide +kernel
theorem dX13_likely_204 : decode cX13_likely 204 = .ok (.lcmp, 1) := by decide +kernel
theorem dX13_likely_205 : decode cX13_likely 205 = .ok (.ifCond .le 20, 3) := by decide +kernel
theorem dX13_likely_208 : decode cX13_likely 208 = .ok (.aload_n 0, 1) := by decide +kernel
theorem dX13_likely_209 : decode cX13_likely 209 = .ok (.getfield 114, 3) := by decide +kernel
theorem dX13_likely_212 : decode cX13_likely 212 = .ok (.iconst 5, 1) := by decide +kernel
theorem dX13_likely_213 : decode cX13_likely 213 = .ok (.iload 5, 2) := by decide +kernel
theorem dX13_likely_215 : decode cX13_likely 215 = .ok (.iconst 1, 1) := by decide +kernel
theorem dX13_likely_216 : decode cX13_likely 216 = .ok (.iadd, 1) := by decide +kernel
theorem dX13_likely_217 : decode cX13_likely 217 = .ok (.imul, 1) := by decide +kernel
theorem dX13_likely_218 : decode cX13_likely 218 = .ok (.iload 14, 2) := by decide +kernel
theorem dX13_likely_220 : decode cX13_likely 220 = .ok (.iadd, 1) := by decide +kernel
theorem dX13_likely_221 : decode cX13_likely 221 = .ok (.laload, 1) := by decide +kernel
theorem dX13_likely_222 : decode cX13_likely 222 = .ok (.goto 5, 3) := by decide +kernel
theorem dX13_likely_225 : decode cX13_likely 225 = .ok (.lload 11, 2) := by decide +kernel
theorem dX13_likely_227 : decode cX13_likely 227 = .ok (.lstore 11, 2) := by decide +kernel
theorem dX13_likely_229 : decode cX13_likely 229 = .ok (.iinc 14 1, 3) := by decide +kernel
theorem dX13_likely_232 : decode cX13_likely 232 = .ok (.goto (-92), 3) := by decide +kernel
theorem dX13_likely_235 : decode cX13_likely 235 = .ok (.lload 11, 2) := by decide +kernel
theorem dX13_likely_237 : decode cX13_likely 237 = .ok (.aload_n 0, 1) := by decide +kernel
theorem dX13_likely_238 : decode cX13_likely 238 = .ok (.getfield 102, 3) := by decide +kernel
theorem dX13_likely_241 : decode cX13_likely 241 = .ok (.iload 5, 2) := by decide +kernel
theorem dX13_likely_243 : decode cX13_likely 243 = .ok (.iaload, 1) := by decide +kernel
theorem dX13_likely_244 : decode cX13_likely 244 = .ok (.ifCond .ge 17, 3) := by decide +kernel
theorem dX13_likely_247 : decode cX13_likely 247 = .ok (.aload_n 0, 1) := by decide +kernel
theorem dX13_likely_248 : decode cX13_likely 248 = .ok (.getfield 33, 3) := by decide +kernel
theorem dX13_likely_251 : decode cX13_likely 251 = .ok (.bipush 48, 2) := by decide +kernel
theorem dX13_likely_253 : decode cX13_likely 253 = .ok (.iload 10, 2) := by decide +kernel
theorem dX13_likely_255 : decode cX13_likely 255 = .ok (.iadd, 1) := by decide +kernel
theorem dX13_likely_256 : decode cX13_likely 256 = .ok (.iaload, 1) := by decide +kernel
theorem dX13_likely_257 : decode cX13_likely 257 = .ok (.i2l, 1) := by decide +kernel
theorem dX13_likely_258 : decode cX13_likely 258 = .ok (.goto 4, 3) := by decide +kernel
theorem dX13_likely_261 : decode cX13_likely 261 = .ok (.lconst 1, 1) := by decide +kernel
theorem dX13_likely_262 : decode cX13_likely 262 = .ok (.lmul, 1) := by decide +kernel
theorem dX13_likely_263 : decode cX13_likely 263 = .ok (.lstore 11, 2) := by decide +kernel
theorem dX13_likely_265 : decode cX13_likely 265 = .ok (.lload 11, 2) := by decide +kernel
theorem dX13_likely_267 : decode cX13_likely 267 = .ok (.lload 6, 2) := by decide +kernel
theorem dX13_likely_269 : decode cX13_likely 269 = .ok (.lcmp, 1) := by decide +kernel
theorem dX13_likely_270 : decode cX13_likely 270 = .ok (.ifCond .gt 6, 3) := by decide +kernel
theorem dX13_likely_273 : decode cX13_likely 273 = .ok (.goto 15, 3) := by decide +kernel
theorem dX13_likely_276 : decode cX13_likely 276 = .ok (.lload 11, 2) := by decide +kernel
theorem dX13_likely_278 : decode cX13_likely 278 = .ok (.lstore 6, 2) := by decide +kernel
theorem dX13_likely_280 : decode cX13_likely 280 = .ok (.iload 10, 2) := by decide +kernel
theorem dX13_likely_282 : decode cX13_likely 282 = .ok (.istore 8, 2) := by decide +kernel
theorem dX13_likely_284 : decode cX13_likely 284 = .ok (.iload 13, 2) := by decide +kernel
theorem dX13_likely_286 : decode cX13_likely 286 = .ok (.istore 9, 2) := by decide +kernel
theorem dX13_likely_288 : decode cX13_likely 288 = .ok (.iinc 10 1, 3) := by decide +kernel
theorem dX13_likely_291 : decode cX13_likely 291 = .ok (.goto (-185), 3) := by decide +kernel
theorem dX13_likely_294 : decode cX13_likely 294 = .ok (.iload 5, 2) := by decide +kernel
theorem dX13_likely_296 : decode cX13_likely 296 = .ok (.ifCond .ne 6, 3) := by decide +kernel
theorem dX13_likely_299 : decode cX13_likely 299 = .ok (.lload 6, 2) := by decide +kernel
theorem dX13_likely_301 : decode cX13_likely 301 = .ok (.lstore_n 3, 1) := by decide +kernel
theorem dX13_likely_302 : decode cX13_likely 302 = .ok (.iload 8, 2) := by decide +kernel
theorem dX13_likely_304 : decode cX13_likely 304 = .ok (.ifCond .ge 9, 3) := by decide +kernel
theorem dX13_likely_307 : decode cX13_likely 307 = .ok (.aload_n 0, 1) := by decide +kernel
theorem dX13_likely_308 : decode cX13_likely 308 = .ok (.lconst 0, 1) := by decide +kernel
theorem dX13_likely_309 : decode cX13_likely 309 = .ok (.putfield 415, 3) := by decide +kernel
theorem dX13_likely_312 : decode cX13_likely 312 = .ok (.return_, 1) := by decide +kernel
theorem dX13_likely_313 : decode cX13_likely 313 = .ok (.aload_n 0, 1) := by decide +kernel
theorem dX13_likely_314 : decode cX13_likely 314 = .ok (.getfield 108, 3) := by decide +kernel
theorem dX13_likely_317 : decode cX13_likely 317 = .ok (.iload 5, 2) := by decide +kernel
theorem dX13_likely_319 : decode cX13_likely 319 = .ok (.iload 8, 2) := by decide +kernel
theorem dX13_likely_321 : decode cX13_likely 321 = .ok (.iastore, 1) := by decide +kernel
theorem dX13_likely_322 : decode cX13_likely 322 = .ok (.iload 9, 2) := by decide +kernel
theorem dX13_likely_324 : decode cX13_likely 324 = .ok (.istore_n 2, 1) := by decide +kernel
theorem dX13_likely_325 : decode cX13_likely 325 = .ok (.iinc 5 1, 3) := by decide +kernel
theorem dX13_likely_328 : decode cX13_likely 328 = .ok (.goto (-240), 3) := by decide +kernel
theorem dX13_likely_331 : decode cX13_likely 331 = .ok (.aload_n 0, 1) := by decide +kernel
theorem dX13_likely_332 : decode cX13_likely 332 = .ok (.iload_n 1, 1) := by decide +kernel
theorem dX13_likely_333 : decode cX13_likely 333 = .ok (.putfield 409, 3) := by decide +kernel
theorem dX13_likely_336 : decode cX13_likely 336 = .ok (.aload_n 0, 1) := by decide +kernel
theorem dX13_likely_337 : decode cX13_likely 337 = .ok (.lload_n 3, 1) := by decide +kernel
theorem dX13_likely_338 : decode cX13_likely 338 = .ok (.putfield 415, 3) := by decide +kernel
theorem dX13_likely_341 : decode cX13_likely 341 = .ok (.return_, 1) := by decide +kernel
theorem dX13_comesFrom_0 : decode cX13_comesFrom 0 = .ok (.iload_n 2, 1) := by decide +kernel
theorem dX13_comesFrom_1 : decode cX13_comesFrom 1 = .ok (.ifCond .ne 21, 3) := by decide +kernel
theorem dX13_comesFrom_4 : decode cX13_comesFrom 4 = .ok (.aload_n 0, 1) := by decide +kernel
theorem dX13_comesFrom_5 : decode cX13_comesFrom 5 = .ok (.getfield 33, 3) := by decide +kernel
theorem dX13_comesFrom_8 : decode cX13_comesFrom 8 = .ok (.iconst 5, 1) := by decide +kernel
theorem dX13_comesFrom_9 : decode cX13_comesFrom 9 = .ok (.iload_n 3, 1) := by decide +kernel
theorem dX13_comesFrom_10 : decode cX13_comesFrom 10 = .ok (.iadd, 1) := by decide +kernel
theorem dX13_comesFrom_11 : decode cX13_comesFrom 11 = .ok (.iaload, 1) := by decide +kernel
theorem dX13_comesFrom_12 : decode cX13_comesFrom 12 = .ok (.iconst 1, 1) := by decide +kernel
theorem dX13_comesFrom_13 : decode cX13_comesFrom 13 = .ok (.if_icmp .ne 7, 3) := by decide +kernel
theorem dX13_comesFrom_16 : decode cX13_comesFrom 16 = .ok (.iconst 1, 1) := by decide +kernel
theorem dX13_comesFrom_17 : decode cX13_comesFrom 17 = .ok (.goto 4, 3) := by decide +kernel
theorem dX13_comesFrom_20 : decode cX13_comesFrom 20 = .ok (.iconst 0, 1) := by decide +kernel
theorem dX13_comesFrom_21 : decode cX13_comesFrom 21 = .ok (.ireturn, 1) := by decide +kernel
theorem dX13_comesFrom_22 : decode cX13_comesFrom 22 = .ok (.iconst 0, 1) := by decide +kernel
theorem dX13_comesFrom_23 : decode cX13_comesFrom 23 = .ok (.istore 4, 2) := by decide +kernel
theorem dX13_comesFrom_25 : decode cX13_comesFrom 25 = .ok (.iload 4, 2) := by decide +kernel
theorem dX13_comesFrom_27 : decode cX13_comesFrom 27 = .ok (.iconst 5, 1) := by decide +kernel
theorem dX13_comesFrom_28 : decode cX13_comesFrom 28 = .ok (.if_icmp .ge 38, 3) := by decide +kernel
theorem dX13_comesFrom_31 : decode cX13_comesFrom 31 = .ok (.iload_n 1, 1) := by decide +kernel
theorem dX13_comesFrom_32 : decode cX13_comesFrom 32 = .ok (.iload 4, 2) := by decide +kernel
theorem dX13_comesFrom_34 : decode cX13_comesFrom 34 = .ok (.invokestatic 257, 3) := by decide +kernel
theorem dX13_comesFrom_37 : decode cX13_comesFrom 37 = .ok (.ifCond .eq 23, 3) := by decide +kernel
theorem dX13_comesFrom_40 : decode cX13_comesFrom 40 = .ok (.aload_n 0, 1) := by decide +kernel
theorem dX13_comesFrom_41 : decode cX13_comesFrom 41 = .ok (.getfield 33, 3) := by decide +kernel
theorem dX13_comesFrom_44 : decode cX13_comesFrom 44 = .ok (.bipush 15, 2) := by decide +kernel
theorem dX13_comesFrom_46 : decode cX13_comesFrom 46 = .ok (.iconst 5, 1) := by decide +kernel
theorem dX13_comesFrom_47 : decode cX13_comesFrom 47 = .ok (.iload 4, 2) := by decide +kernel
theorem dX13_comesFrom_49 : decode cX13_comesFrom 49 = .ok (.imul, 1) := by decide +kernel
theorem dX13_comesFrom_50 : decode cX13_comesFrom 50 = .ok (.iadd, 1) := by decide +kernel
theorem dX13_comesFrom_51 : decode cX13_comesFrom 51 = .ok (.iload_n 3, 1) := by decide +kernel
theorem dX13_comesFrom_52 : decode cX13_comesFrom 52 = .ok (.iadd, 1) := by decide +kernel
theorem dX13_comesFrom_53 : decode cX13_comesFrom 53 = .ok (.iaload, 1) := by decide +kernel
theorem dX13_comesFrom_54 : decode cX13_comesFrom 54 = .ok (.iconst 1, 1) := by decide +kernel
theorem dX13_comesFrom_55 : decode cX13_comesFrom 55 = .ok (.if_icmp .ne 5, 3) := by decide +kernel
theorem dX13_comesFrom_58 : decode cX13_comesFrom 58 = .ok (.iconst 1, 1) := by decide +kernel
theorem dX13_comesFrom_59 : decode cX13_comesFrom 59 = .ok (.ireturn, 1) := by decide +kernel
theorem dX13_comesFrom_60 : decode cX13_comesFrom 60 = .ok (.iinc 4 1, 3) := by decide +kernel
theorem dX13_comesFrom_63 : decode cX13_comesFrom 63 = .ok (.goto (-38), 3) := by decide +kernel
theorem dX13_comesFrom_66 : decode cX13_comesFrom 66 = .ok (.iconst 0, 1) := by decide +kernel
theorem dX13_comesFrom_67 : decode cX13_comesFrom 67 = .ok (.ireturn, 1) := by decide +kernel
theorem dX13_bestFrom_0 : decode cX13_bestFrom 0 = .ok (.lconst 0, 1) := by decide +kernel
theorem dX13_bestFrom_1 : decode cX13_bestFrom 1 = .ok (.lstore_n 3, 1) := by decide +kernel
theorem dX13_bestFrom_2 : decode cX13_bestFrom 2 = .ok (.iconst 0, 1) := by decide +kernel
theorem dX13_bestFrom_3 : decode cX13_bestFrom 3 = .ok (.istore 5, 2) := by decide +kernel
theorem dX13_bestFrom_5 : decode cX13_bestFrom 5 = .ok (.iload 5, 2) := by decide +kernel
theorem dX13_bestFrom_7 : decode cX13_bestFrom 7 = .ok (.aload_n 0, 1) := by decide +kernel
theorem dX13_bestFrom_8 : decode cX13_bestFrom 8 = .ok (.getfield 33, 3) := by decide +kernel
theorem dX13_bestFrom_11 : decode cX13_bestFrom 11 = .ok (.iconst 2, 1) := by decide +kernel
theorem dX13_bestFrom_12 : decode cX13_bestFrom 12 = .ok (.iaload, 1) := by decide +kernel
theorem dX13_bestFrom_13 : decode cX13_bestFrom 13 = .ok (.if_icmp .ge 129, 3) := by decide +kernel
theorem dX13_bestFrom_16 : decode cX13_bestFrom 16 = .ok (.aload_n 0, 1) := by decide +kernel
theorem dX13_bestFrom_17 : decode cX13_bestFrom 17 = .ok (.iload_n 1, 1) := by decide +kernel
theorem dX13_bestFrom_18 : decode cX13_bestFrom 18 = .ok (.iload 5, 2) := by decide +kernel
theorem dX13_bestFrom_20 : decode cX13_bestFrom 20 = .ok (.invokevirtual 402, 3) := by decide +kernel
theorem dX13_bestFrom_23 : decode cX13_bestFrom 23 = .ok (.ifCond .ne 6, 3) := by decide +kernel
theorem dX13_bestFrom_26 : decode cX13_bestFrom 26 = .ok (.goto 110, 3) := by decide +kernel
theorem dX13_bestFrom_29 : decode cX13_bestFrom 29 = .ok (.iconst 0, 1) := by decide +kernel
theorem dX13_bestFrom_30 : decode cX13_bestFrom 30 = .ok (.istore 6, 2) := by decide +kernel
theorem dX13_bestFrom_32 : decode cX13_bestFrom 32 = .ok (.iload 6, 2) := by decide +kernel
theorem dX13_bestFrom_34 : decode cX13_bestFrom 34 = .ok (.iconst 5, 1) := by decide +kernel
theorem dX13_bestFrom_35 : decode cX13_bestFrom 35 = .ok (.if_icmp .ge 101, 3) := by decide +kernel
theorem dX13_bestFrom_38 : decode cX13_bestFrom 38 = .ok (.aload_n 0, 1) := by decide +kernel
theorem dX13_bestFrom_39 : decode cX13_bestFrom 39 = .ok (.getfield 33, 3) := by decide +kernel
theorem dX13_bestFrom_42 : decode cX13_bestFrom 42 = .ok (.bipush 72, 2) := by decide +kernel
theorem dX13_bestFrom_44 : decode cX13_bestFrom 44 = .ok (.iconst 5, 1) := by decide +kernel
theorem dX13_bestFrom_45 : decode cX13_bestFrom 45 = .ok (.iload 5, 2) := by decide +kernel
theorem dX13_bestFrom_47 : decode cX13_bestFrom 47 = .ok (.imul, 1) := by decide +kernel
theorem dX13_bestFrom_48 : decode cX13_bestFrom 48 = .ok (.iadd, 1) := by decide +kernel
theorem dX13_bestFrom_49 : decode cX13_bestFrom 49 = .ok (.iload 6, 2) := by decide +kernel
theorem dX13_bestFrom_51 : decode cX13_bestFrom 51 = .ok (.iadd, 1) := by decide +kernel
theorem dX13_bestFrom_52 : decode cX13_bestFrom 52 = .ok (.iaload, 1) := by decide +kernel
theorem dX13_bestFrom_53 : decode cX13_bestFrom 53 = .ok (.ifCond .eq 77, 3) := by decide +kernel
theorem dX13_bestFrom_56 : decode cX13_bestFrom 56 = .ok (.aload_n 0, 1) := by decide +kernel
theorem dX13_bestFrom_57 : decode cX13_bestFrom 57 = .ok (.getfield 33, 3) := by decide +kernel
theorem dX13_bestFrom_60 : decode cX13_bestFrom 60 = .ok (.bipush 15, 2) := by decide +kernel
theorem dX13_bestFrom_62 : decode cX13_bestFrom 62 = .ok (.iconst 5, 1) := by decide +kernel
theorem dX13_bestFrom_63 : decode cX13_bestFrom 63 = .ok (.iload_n 2, 1) := by decide +kernel
theorem dX13_bestFrom_64 : decode cX13_bestFrom 64 = .ok (.imul, 1) := by decide +kernel
theorem dX13_bestFrom_65 : decode cX13_bestFrom 65 = .ok (.iadd, 1) := by decide +kernel
theorem dX13_bestFrom_66 : decode cX13_bestFrom 66 = .ok (.iload 6, 2) := by decide +kernel
theorem dX13_bestFrom_68 : decode cX13_bestFrom 68 = .ok (.iadd, 1) := by decide +kernel
theorem dX13_bestFrom_69 : decode cX13_bestFrom 69 = .ok (.iaload, 1) := by decide +kernel
theorem dX13_bestFrom_70 : decode cX13_bestFrom 70 = .ok (.ifCond .ne 6, 3) := by decide +kernel
theorem dX13_bestFrom_73 : decode cX13_bestFrom 73 = .ok (.goto 57, 3) := by decide +kernel
theorem dX13_bestFrom_76 : decode cX13_bestFrom 76 = .ok (.aload_n 0, 1) := by decide +kernel
theorem dX13_bestFrom_77 : decode cX13_bestFrom 77 = .ok (.getfield 114, 3) := by decide +kernel
theorem dX13_bestFrom_80 : decode cX13_bestFrom 80 = .ok (.iconst 5, 1) := by decide +kernel
theorem dX13_bestFrom_81 : decode cX13_bestFrom 81 = .ok (.iload_n 1, 1) := by decide +kernel
theorem dX13_bestFrom_82 : decode cX13_bestFrom 82 = .ok (.iconst 1, 1) := by decide +kernel
theorem dX13_bestFrom_83 : decode cX13_bestFrom 83 = .ok (.iadd, 1) := by decide +kernel
theorem dX13_bestFrom_84 : decode cX13_bestFrom 84 = .ok (.imul, 1) := by decide +kernel
theorem dX13_bestFrom_85 : decode cX13_bestFrom 85 = .ok (.iload 6, 2) := by decide +kernel
theorem dX13_bestFrom_87 : decode cX13_bestFrom 87 = .ok (.iadd, 1) := by decide +kernel
theorem dX13_bestFrom_88 : decode cX13_bestFrom 88 = .ok (.laload, 1) := by decide +kernel
theorem dX13_bestFrom_89 : decode cX13_bestFrom 89 = .ok (.aload_n 0, 1) := by decide +kernel
theorem dX13_bestFrom_90 : decode cX13_bestFrom 90 = .ok (.getfield 102, 3) := by decide +kernel
theorem dX13_bestFrom_93 : decode cX13_bestFrom 93 = .ok (.iload_n 1, 1) := by decide +kernel
theorem dX13_bestFrom_94 : decode cX13_bestFrom 94 = .ok (.iaload, 1) := by decide +kernel
theorem dX13_bestFrom_95 : decode cX13_bestFrom 95 = .ok (.ifCond .ge 16, 3) := by decide +kernel
theorem dX13_bestFrom_98 : decode cX13_bestFrom 98 = .ok (.aload_n 0, 1) := by decide +kernel
theorem dX13_bestFrom_99 : decode cX13_bestFrom 99 = .ok (.getfield 33, 3) := by decide +kernel
theorem dX13_bestFrom_102 : decode cX13_bestFrom 102 = .ok (.bipush 48, 2) := by decide +kernel
theorem dX13_bestFrom_104 : decode cX13_bestFrom 104 = .ok (.iload 5, 2) := by decide +kernel
theorem dX13_bestFrom_106 : decode cX13_bestFrom 106 = .ok (.iadd, 1) := by decide +kernel
theorem dX13_bestFrom_107 : decode cX13_bestFrom 107 = .ok (.iaload, 1) := by decide +kernel
theorem dX13_bestFrom_108 : decode cX13_bestFrom 108 = .ok (.goto 4, 3) := by decide +kernel
theorem dX13_bestFrom_111 : decode cX13_bestFrom 111 = .ok (.iconst 1, 1) := by decide +kernel
theorem dX13_bestFrom_112 : decode cX13_bestFrom 112 = .ok (.i2l, 1) := by decide +kernel
theorem dX13_bestFrom_113 : decode cX13_bestFrom 113 = .ok (.lmul, 1) := by decide +kernel
theorem dX13_bestFrom_114 : decode cX13_bestFrom 114 = .ok (.lstore 7, 2) := by decide +kernel
theorem dX13_bestFrom_116 : decode cX13_bestFrom 116 = .ok (.lload 7, 2) := by decide +kernel
theorem dX13_bestFrom_118 : decode cX13_bestFrom 118 = .ok (.lload_n 3, 1) := by decide +kernel
theorem dX13_bestFrom_119 : decode cX13_bestFrom 119 = .ok (.lcmp, 1) := by decide +kernel
theorem dX13_bestFrom_120 : decode cX13_bestFrom 120 = .ok (.ifCond .le 8, 3) := by decide +kernel
theorem dX13_bestFrom_123 : decode cX13_bestFrom 123 = .ok (.lload 7, 2) := by decide +kernel
theorem dX13_bestFrom_125 : decode cX13_bestFrom 125 = .ok (.goto 4, 3) := by decide +kernel
theorem dX13_bestFrom_128 : decode cX13_bestFrom 128 = .ok (.lload_n 3, 1) := by decide +kernel
theorem dX13_bestFrom_129 : decode cX13_bestFrom 129 = .ok (.lstore_n 3, 1) := by decide +kernel
theorem dX13_bestFrom_130 : decode cX13_bestFrom 130 = .ok (.iinc 6 1, 3) := by decide +kernel
theorem dX13_bestFrom_133 : decode cX13_bestFrom 133 = .ok (.goto (-101), 3) := by decide +kernel
theorem dX13_bestFrom_136 : decode cX13_bestFrom 136 = .ok (.iinc 5 1, 3) := by decide +kernel
theorem dX13_bestFrom_139 : decode cX13_bestFrom 139 = .ok (.goto (-134), 3) := by decide +kernel
theorem dX13_bestFrom_142 : decode cX13_bestFrom 142 = .ok (.lload_n 3, 1) := by decide +kernel
theorem dX13_bestFrom_143 : decode cX13_bestFrom 143 = .ok (.lreturn, 1) := by decide +kernel
theorem dX13_torn_0 : decode cX13_torn 0 = .ok (.aload_n 0, 1) := by decide +kernel
theorem dX13_torn_1 : decode cX13_torn 1 = .ok (.iconst 0, 1) := by decide +kernel
theorem dX13_torn_2 : decode cX13_torn 2 = .ok (.putfield 1, 3) := by decide +kernel
theorem dX13_torn_5 : decode cX13_torn 5 = .ok (.aload_n 0, 1) := by decide +kernel
theorem dX13_torn_6 : decode cX13_torn 6 = .ok (.sipush 940, 3) := by decide +kernel
theorem dX13_torn_9 : decode cX13_torn 9 = .ok (.invokevirtual 260, 3) := by decide +kernel
theorem dX13_torn_12 : decode cX13_torn 12 = .ok (.iload_n 1, 1) := by decide +kernel
theorem dX13_torn_13 : decode cX13_torn 13 = .ok (.iconst 1, 1) := by decide +kernel
theorem dX13_torn_14 : decode cX13_torn 14 = .ok (.aload_n 0, 1) := by decide +kernel
theorem dX13_torn_15 : decode cX13_torn 15 = .ok (.getfield 33, 3) := by decide +kernel
theorem dX13_torn_18 : decode cX13_torn 18 = .ok (.iconst 3, 1) := by decide +kernel
theorem dX13_torn_19 : decode cX13_torn 19 = .ok (.iaload, 1) := by decide +kernel
theorem dX13_torn_20 : decode cX13_torn 20 = .ok (.invokestatic 204, 3) := by decide +kernel
theorem dX13_torn_23 : decode cX13_torn 23 = .ok (.ifCond .eq 13, 3) := by decide +kernel
theorem dX13_torn_26 : decode cX13_torn 26 = .ok (.iload_n 2, 1) := by decide +kernel
theorem dX13_torn_27 : decode cX13_torn 27 = .ok (.iconst 1, 1) := by decide +kernel
theorem dX13_torn_28 : decode cX13_torn 28 = .ok (.bipush 12, 2) := by decide +kernel
theorem dX13_torn_30 : decode cX13_torn 30 = .ok (.invokestatic 204, 3) := by decide +kernel
theorem dX13_torn_33 : decode cX13_torn 33 = .ok (.ifCond .ne 7, 3) := by decide +kernel
theorem dX13_torn_36 : decode cX13_torn 36 = .ok (.ldc2_w 316, 3) := by decide +kernel
theorem dX13_torn_39 : decode cX13_torn 39 = .ok (.lreturn, 1) := by decide +kernel
theorem dX13_torn_40 : decode cX13_torn 40 = .ok (.aload_n 0, 1) := by decide +kernel
theorem dX13_torn_41 : decode cX13_torn 41 = .ok (.invokevirtual 328, 3) := by decide +kernel
theorem dX13_torn_44 : decode cX13_torn 44 = .ok (.iconst 0, 1) := by decide +kernel
theorem dX13_torn_45 : decode cX13_torn 45 = .ok (.istore_n 3, 1) := by decide +kernel
theorem dX13_torn_46 : decode cX13_torn 46 = .ok (.iconst 0, 1) := by decide +kernel
theorem dX13_torn_47 : decode cX13_torn 47 = .ok (.istore 4, 2) := by decide +kernel
theorem dX13_torn_49 : decode cX13_torn 49 = .ok (.iload 4, 2) := by decide +kernel
theorem dX13_torn_51 : decode cX13_torn 51 = .ok (.iload_n 2, 1) := by decide +kernel
theorem dX13_torn_52 : decode cX13_torn 52 = .ok (.if_icmp .ge 71, 3) := by decide +kernel
theorem dX13_torn_55 : decode cX13_torn 55 = .ok (.aload_n 0, 1) := by decide +kernel
theorem dX13_torn_56 : decode cX13_torn 56 = .ok (.getfield 102, 3) := by decide +kernel
theorem dX13_torn_59 : decode cX13_torn 59 = .ok (.iload 4, 2) := by decide +kernel
theorem dX13_torn_61 : decode cX13_torn 61 = .ok (.iconst (-1), 1) := by decide +kernel
theorem dX13_torn_62 : decode cX13_torn 62 = .ok (.iastore, 1) := by decide +kernel
theorem dX13_torn_63 : decode cX13_torn 63 = .ok (.aload_n 0, 1) := by decide +kernel
theorem dX13_torn_64 : decode cX13_torn 64 = .ok (.iload_n 1, 1) := by decide +kernel
theorem dX13_torn_65 : decode cX13_torn 65 = .ok (.iload 4, 2) := by decide +kernel
theorem dX13_torn_67 : decode cX13_torn 67 = .ok (.iconst 1, 1) := by decide +kernel
theorem dX13_torn_68 : decode cX13_torn 68 = .ok (.iadd, 1) := by decide +kernel
theorem dX13_torn_69 : decode cX13_torn 69 = .ok (.invokevirtual 300, 3) := by decide +kernel
theorem dX13_torn_72 : decode cX13_torn 72 = .ok (.ifCond .eq 6, 3) := by decide +kernel
theorem dX13_torn_75 : decode cX13_torn 75 = .ok (.goto 42, 3) := by decide +kernel
theorem dX13_torn_78 : decode cX13_torn 78 = .ok (.iload_n 3, 1) := by decide +kernel
theorem dX13_torn_79 : decode cX13_torn 79 = .ok (.aload_n 0, 1) := by decide +kernel
theorem dX13_torn_80 : decode cX13_torn 80 = .ok (.getfield 18, 3) := by decide +kernel
theorem dX13_torn_83 : decode cX13_torn 83 = .ok (.if_icmp .ge 15, 3) := by decide +kernel
theorem dX13_torn_86 : decode cX13_torn 86 = .ok (.aload_n 0, 1) := by decide +kernel
theorem dX13_torn_87 : decode cX13_torn 87 = .ok (.aload_n 0, 1) := by decide +kernel
theorem dX13_torn_88 : decode cX13_torn 88 = .ok (.iload_n 3, 1) := by decide +kernel
theorem dX13_torn_89 : decode cX13_torn 89 = .ok (.invokevirtual 283, 3) := by decide +kernel
theorem dX13_torn_92 : decode cX13_torn 92 = .ok (.invokevirtual 272, 3) := by decide +kernel
theorem dX13_torn_95 : decode cX13_torn 95 = .ok (.ifCond .ne 7, 3) := by decide +kernel
theorem dX13_torn_98 : decode cX13_torn 98 = .ok (.ldc2_w 316, 3) := by decide +kernel
theorem dX13_torn_101 : decode cX13_torn 101 = .ok (.lreturn, 1) := by decide +kernel
theorem dX13_torn_102 : decode cX13_torn 102 = .ok (.aload_n 0, 1) := by decide +kernel
theorem dX13_torn_103 : decode cX13_torn 103 = .ok (.getfield 102, 3) := by decide +kernel
theorem dX13_torn_106 : decode cX13_torn 106 = .ok (.iload 4, 2) := by decide +kernel
theorem dX13_torn_108 : decode cX13_torn 108 = .ok (.aload_n 0, 1) := by decide +kernel
theorem dX13_torn_109 : decode cX13_torn 109 = .ok (.iload_n 3, 1) := by decide +kernel
theorem dX13_torn_110 : decode cX13_torn 110 = .ok (.invokevirtual 283, 3) := by decide +kernel
theorem dX13_torn_113 : decode cX13_torn 113 = .ok (.iastore, 1) := by decide +kernel
theorem dX13_torn_114 : decode cX13_torn 114 = .ok (.iinc 3 1, 3) := by decide +kernel
theorem dX13_torn_117 : decode cX13_torn 117 = .ok (.iinc 4 1, 3) := by decide +kernel
theorem dX13_torn_120 : decode cX13_torn 120 = .ok (.goto (-71), 3) := by decide +kernel
theorem dX13_torn_123 : decode cX13_torn 123 = .ok (.iload_n 3, 1) := by decide +kernel
theorem dX13_torn_124 : decode cX13_torn 124 = .ok (.aload_n 0, 1) := by decide +kernel
theorem dX13_torn_125 : decode cX13_torn 125 = .ok (.getfield 18, 3) := by decide +kernel
theorem dX13_torn_128 : decode cX13_torn 128 = .ok (.if_icmp .eq 7, 3) := by decide +kernel
theorem dX13_torn_131 : decode cX13_torn 131 = .ok (.ldc2_w 316, 3) := by decide +kernel
theorem dX13_torn_134 : decode cX13_torn 134 = .ok (.lreturn, 1) := by decide +kernel
theorem dX13_torn_135 : decode cX13_torn 135 = .ok (.aload_n 0, 1) := by decide +kernel
theorem dX13_torn_136 : decode cX13_torn 136 = .ok (.iload_n 2, 1) := by decide +kernel
theorem dX13_torn_137 : decode cX13_torn 137 = .ok (.invokevirtual 418, 3) := by decide +kernel
theorem dX13_torn_140 : decode cX13_torn 140 = .ok (.istore 4, 2) := by decide +kernel
theorem dX13_torn_142 : decode cX13_torn 142 = .ok (.aload_n 0, 1) := by decide +kernel
theorem dX13_torn_143 : decode cX13_torn 143 = .ok (.getfield 105, 3) := by decide +kernel
theorem dX13_torn_146 : decode cX13_torn 146 = .ok (.iconst 0, 1) := by decide +kernel
theorem dX13_torn_147 : decode cX13_torn 147 = .ok (.iload 4, 2) := by decide +kernel
theorem dX13_torn_149 : decode cX13_torn 149 = .ok (.iastore, 1) := by decide +kernel
theorem dX13_torn_150 : decode cX13_torn 150 = .ok (.aload_n 0, 1) := by decide +kernel
theorem dX13_torn_151 : decode cX13_torn 151 = .ok (.getfield 105, 3) := by decide +kernel
theorem dX13_torn_154 : decode cX13_torn 154 = .ok (.iconst 1, 1) := by decide +kernel
theorem dX13_torn_155 : decode cX13_torn 155 = .ok (.iconst 0, 1) := by decide +kernel
theorem dX13_torn_156 : decode cX13_torn 156 = .ok (.iastore, 1) := by decide +kernel
theorem dX13_torn_157 : decode cX13_torn 157 = .ok (.aload_n 0, 1) := by decide +kernel
theorem dX13_torn_158 : decode cX13_torn 158 = .ok (.getfield 105, 3) := by decide +kernel
theorem dX13_torn_161 : decode cX13_torn 161 = .ok (.iconst 2, 1) := by decide +kernel
theorem dX13_torn_162 : decode cX13_torn 162 = .ok (.iconst 0, 1) := by decide +kernel
theorem dX13_torn_163 : decode cX13_torn 163 = .ok (.iastore, 1) := by decide +kernel
theorem dX13_torn_164 : decode cX13_torn 164 = .ok (.iconst 0, 1) := by decide +kernel
theorem dX13_torn_165 : decode cX13_torn 165 = .ok (.istore 5, 2) := by decide +kernel
theorem dX13_torn_167 : decode cX13_torn 167 = .ok (.iload 5, 2) := by decide +kernel
theorem dX13_torn_169 : decode cX13_torn 169 = .ok (.aload_n 0, 1) := by decide +kernel
theorem dX13_torn_170 : decode cX13_torn 170 = .ok (.getfield 33, 3) := by decide +kernel
theorem dX13_torn_173 : decode cX13_torn 173 = .ok (.iconst 1, 1) := by decide +kernel
theorem dX13_torn_174 : decode cX13_torn 174 = .ok (.iaload, 1) := by decide +kernel
theorem dX13_torn_175 : decode cX13_torn 175 = .ok (.if_icmp .ge 70, 3) := by decide +kernel
theorem dX13_torn_178 : decode cX13_torn 178 = .ok (.iload 4, 2) := by decide +kernel
theorem dX13_torn_180 : decode cX13_torn 180 = .ok (.ifCond .eq 65, 3) := by decide +kernel
theorem dX13_torn_183 : decode cX13_torn 183 = .ok (.aload_n 0, 1) := by decide +kernel
theorem dX13_torn_184 : decode cX13_torn 184 = .ok (.getfield 105, 3) := by decide +kernel
theorem dX13_torn_187 : decode cX13_torn 187 = .ok (.iconst 1, 1) := by decide +kernel
theorem dX13_torn_188 : decode cX13_torn 188 = .ok (.dup2, 1) := by decide +kernel
theorem dX13_torn_189 : decode cX13_torn 189 = .ok (.iaload, 1) := by decide +kernel
theorem dX13_torn_190 : decode cX13_torn 190 = .ok (.iload 4, 2) := by decide +kernel
theorem dX13_torn_192 : decode cX13_torn 192 = .ok (.iload 5, 2) := by decide +kernel
theorem dX13_torn_194 : decode cX13_torn 194 = .ok (.iconst 1, 1) := by decide +kernel
theorem dX13_torn_195 : decode cX13_torn 195 = .ok (.invokestatic 341, 3) := by decide +kernel
theorem dX13_torn_198 : decode cX13_torn 198 = .ok (.ifCond .eq 10, 3) := by decide +kernel
theorem dX13_torn_201 : decode cX13_torn 201 = .ok (.iconst 1, 1) := by decide +kernel
theorem dX13_torn_202 : decode cX13_torn 202 = .ok (.iload 5, 2) := by decide +kernel
theorem dX13_torn_204 : decode cX13_torn 204 = .ok (.ishl, 1) := by decide +kernel
theorem dX13_torn_205 : decode cX13_torn 205 = .ok (.goto 4, 3) := by decide +kernel
theorem dX13_torn_208 : decode cX13_torn 208 = .ok (.iconst 0, 1) := by decide +kernel
theorem dX13_torn_209 : decode cX13_torn 209 = .ok (.ior, 1) := by decide +kernel
theorem dX13_torn_210 : decode cX13_torn 210 = .ok (.iastore, 1) := by decide +kernel
theorem dX13_torn_211 : decode cX13_torn 211 = .ok (.aload_n 0, 1) := by decide +kernel
theorem dX13_torn_212 : decode cX13_torn 212 = .ok (.getfield 105, 3) := by decide +kernel
theorem dX13_torn_215 : decode cX13_torn 215 = .ok (.iconst 2, 1) := by decide +kernel
theorem dX13_torn_216 : decode cX13_torn 216 = .ok (.dup2, 1) := by decide +kernel
theorem dX13_torn_217 : decode cX13_torn 217 = .ok (.iaload, 1) := by decide +kernel
theorem dX13_torn_218 : decode cX13_torn 218 = .ok (.iload 4, 2) := by decide +kernel
theorem dX13_torn_220 : decode cX13_torn 220 = .ok (.iload 5, 2) := by decide +kernel
theorem dX13_torn_222 : decode cX13_torn 222 = .ok (.iconst 0, 1) := by decide +kernel
theorem dX13_torn_223 : decode cX13_torn 223 = .ok (.invokestatic 341, 3) := by decide +kernel
theorem dX13_torn_226 : decode cX13_torn 226 = .ok (.ifCond .eq 10, 3) := by decide +kernel
theorem dX13_torn_229 : decode cX13_torn 229 = .ok (.iconst 1, 1) := by decide +kernel
theorem dX13_torn_230 : decode cX13_torn 230 = .ok (.iload 5, 2) := by decide +kernel
theorem dX13_torn_232 : decode cX13_torn 232 = .ok (.ishl, 1) := by decide +kernel
theorem dX13_torn_233 : decode cX13_torn 233 = .ok (.goto 4, 3) := by decide +kernel
theorem dX13_torn_236 : decode cX13_torn 236 = .ok (.iconst 0, 1) := by decide +kernel
theorem dX13_torn_237 : decode cX13_torn 237 = .ok (.ior, 1) := by decide +kernel
theorem dX13_torn_238 : decode cX13_torn 238 = .ok (.iastore, 1) := by decide +kernel
theorem dX13_torn_239 : decode cX13_torn 239 = .ok (.iinc 5 1, 3) := by decide +kernel
theorem dX13_torn_242 : decode cX13_torn 242 = .ok (.goto (-75), 3) := by decide +kernel
theorem dX13_torn_245 : decode cX13_torn 245 = .ok (.aload_n 0, 1) := by decide +kernel
theorem dX13_torn_246 : decode cX13_torn 246 = .ok (.iload_n 2, 1) := by decide +kernel
theorem dX13_torn_247 : decode cX13_torn 247 = .ok (.invokevirtual 421, 3) := by decide +kernel
theorem dX13_torn_250 : decode cX13_torn 250 = .ok (.aload_n 0, 1) := by decide +kernel
theorem dX13_torn_251 : decode cX13_torn 251 = .ok (.iconst 1, 1) := by decide +kernel
theorem dX13_torn_252 : decode cX13_torn 252 = .ok (.putfield 424, 3) := by decide +kernel
theorem dX13_torn_255 : decode cX13_torn 255 = .ok (.aload_n 0, 1) := by decide +kernel
theorem dX13_torn_256 : decode cX13_torn 256 = .ok (.iload_n 2, 1) := by decide +kernel
theorem dX13_torn_257 : decode cX13_torn 257 = .ok (.invokevirtual 427, 3) := by decide +kernel
theorem dX13_torn_260 : decode cX13_torn 260 = .ok (.lreturn, 1) := by decide +kernel
theorem dX13_sure_0 : decode cX13_sure 0 = .ok (.aload_n 0, 1) := by decide +kernel
theorem dX13_sure_1 : decode cX13_sure 1 = .ok (.iconst 0, 1) := by decide +kernel
theorem dX13_sure_2 : decode cX13_sure 2 = .ok (.putfield 1, 3) := by decide +kernel
theorem dX13_sure_5 : decode cX13_sure 5 = .ok (.aload_n 0, 1) := by decide +kernel
theorem dX13_sure_6 : decode cX13_sure 6 = .ok (.getfield 424, 3) := by decide +kernel
theorem dX13_sure_9 : decode cX13_sure 9 = .ok (.ifCond .eq 21, 3) := by decide +kernel
theorem dX13_sure_12 : decode cX13_sure 12 = .ok (.iload_n 1, 1) := by decide +kernel
theorem dX13_sure_13 : decode cX13_sure 13 = .ok (.iconst 0, 1) := by decide +kernel
theorem dX13_sure_14 : decode cX13_sure 14 = .ok (.iconst 2, 1) := by decide +kernel
theorem dX13_sure_15 : decode cX13_sure 15 = .ok (.invokestatic 204, 3) := by decide +kernel
theorem dX13_sure_18 : decode cX13_sure 18 = .ok (.ifCond .eq 12, 3) := by decide +kernel
theorem dX13_sure_21 : decode cX13_sure 21 = .ok (.aload_n 0, 1) := by decide +kernel
theorem dX13_sure_22 : decode cX13_sure 22 = .ok (.getfield 105, 3) := by decide +kernel
theorem dX13_sure_25 : decode cX13_sure 25 = .ok (.iload_n 1, 1) := by decide +kernel
theorem dX13_sure_26 : decode cX13_sure 26 = .ok (.iaload, 1) := by decide +kernel
theorem dX13_sure_27 : decode cX13_sure 27 = .ok (.goto 4, 3) := by decide +kernel
theorem dX13_sure_30 : decode cX13_sure 30 = .ok (.iconst (-1), 1) := by decide +kernel
theorem dX13_sure_31 : decode cX13_sure 31 = .ok (.ireturn, 1) := by decide +kernel
theorem dX13_likeliest_0 : decode cX13_likeliest 0 = .ok (.aload_n 0, 1) := by decide +kernel
theorem dX13_likeliest_1 : decode cX13_likeliest 1 = .ok (.iconst 0, 1) := by decide +kernel
theorem dX13_likeliest_2 : decode cX13_likeliest 2 = .ok (.putfield 1, 3) := by decide +kernel
theorem dX13_likeliest_5 : decode cX13_likeliest 5 = .ok (.aload_n 0, 1) := by decide +kernel
theorem dX13_likeliest_6 : decode cX13_likeliest 6 = .ok (.getfield 424, 3) := by decide +kernel
theorem dX13_likeliest_9 : decode cX13_likeliest 9 = .ok (.ifCond .ne 7, 3) := by decide +kernel
theorem dX13_likeliest_12 : decode cX13_likeliest 12 = .ok (.ldc2_w 316, 3) := by decide +kernel
theorem dX13_likeliest_15 : decode cX13_likeliest 15 = .ok (.lreturn, 1) := by decide +kernel
theorem dX13_likeliest_16 : decode cX13_likeliest 16 = .ok (.aload_n 0, 1) := by decide +kernel
theorem dX13_likeliest_17 : decode cX13_likeliest 17 = .ok (.getfield 415, 3) := by decide +kernel
theorem dX13_likeliest_20 : decode cX13_likeliest 20 = .ok (.lconst 0, 1) := by decide +kernel
theorem dX13_likeliest_21 : decode cX13_likeliest 21 = .ok (.lcmp, 1) := by decide +kernel
theorem dX13_likeliest_22 : decode cX13_likeliest 22 = .ok (.ifCond .le 39, 3) := by decide +kernel
theorem dX13_likeliest_25 : decode cX13_likeliest 25 = .ok (.aload_n 0, 1) := by decide +kernel
theorem dX13_likeliest_26 : decode cX13_likeliest 26 = .ok (.aload_n 0, 1) := by decide +kernel
theorem dX13_likeliest_27 : decode cX13_likeliest 27 = .ok (.getfield 409, 3) := by decide +kernel
theorem dX13_likeliest_30 : decode cX13_likeliest 30 = .ok (.putfield 377, 3) := by decide +kernel
theorem dX13_likeliest_33 : decode cX13_likeliest 33 = .ok (.iconst 0, 1) := by decide +kernel
theorem dX13_likeliest_34 : decode cX13_likeliest 34 = .ok (.istore_n 1, 1) := by decide +kernel
theorem dX13_likeliest_35 : decode cX13_likeliest 35 = .ok (.iload_n 1, 1) := by decide +kernel
theorem dX13_likeliest_36 : decode cX13_likeliest 36 = .ok (.aload_n 0, 1) := by decide +kernel
theorem dX13_likeliest_37 : decode cX13_likeliest 37 = .ok (.getfield 409, 3) := by decide +kernel
theorem dX13_likeliest_40 : decode cX13_likeliest 40 = .ok (.if_icmp .ge 21, 3) := by decide +kernel
theorem dX13_likeliest_43 : decode cX13_likeliest 43 = .ok (.aload_n 0, 1) := by decide +kernel
theorem dX13_likeliest_44 : decode cX13_likeliest 44 = .ok (.getfield 96, 3) := by decide +kernel
theorem dX13_likeliest_47 : decode cX13_likeliest 47 = .ok (.iload_n 1, 1) := by decide +kernel
theorem dX13_likeliest_48 : decode cX13_likeliest 48 = .ok (.aload_n 0, 1) := by decide +kernel
theorem dX13_likeliest_49 : decode cX13_likeliest 49 = .ok (.getfield 108, 3) := by decide +kernel
theorem dX13_likeliest_52 : decode cX13_likeliest 52 = .ok (.iload_n 1, 1) := by decide +kernel
theorem dX13_likeliest_53 : decode cX13_likeliest 53 = .ok (.iaload, 1) := by decide +kernel
theorem dX13_likeliest_54 : decode cX13_likeliest 54 = .ok (.iastore, 1) := by decide +kernel
theorem dX13_likeliest_55 : decode cX13_likeliest 55 = .ok (.iinc 1 1, 3) := by decide +kernel
theorem dX13_likeliest_58 : decode cX13_likeliest 58 = .ok (.goto (-23), 3) := by decide +kernel
theorem dX13_likeliest_61 : decode cX13_likeliest 61 = .ok (.aload_n 0, 1) := by decide +kernel
theorem dX13_likeliest_62 : decode cX13_likeliest 62 = .ok (.getfield 415, 3) := by decide +kernel
theorem dX13_likeliest_65 : decode cX13_likeliest 65 = .ok (.lreturn, 1) := by decide +kernel
theorem dX13_add_0 : decode cX13_add 0 = .ok (.aload_n 0, 1) := by decide +kernel
theorem dX13_add_1 : decode cX13_add 1 = .ok (.iconst 0, 1) := by decide +kernel
theorem dX13_add_2 : decode cX13_add 2 = .ok (.putfield 1, 3) := by decide +kernel
theorem dX13_add_5 : decode cX13_add 5 = .ok (.aload_n 0, 1) := by decide +kernel
theorem dX13_add_6 : decode cX13_add 6 = .ok (.getfield 33, 3) := by decide +kernel
theorem dX13_add_9 : decode cX13_add 9 = .ok (.sipush 462, 3) := by decide +kernel
theorem dX13_add_12 : decode cX13_add 12 = .ok (.iaload, 1) := by decide +kernel
theorem dX13_add_13 : decode cX13_add 13 = .ok (.bipush 10, 2) := by decide +kernel
theorem dX13_add_15 : decode cX13_add 15 = .ok (.if_icmp .ne 5, 3) := by decide +kernel
theorem dX13_add_18 : decode cX13_add 18 = .ok (.iconst (-1), 1) := by decide +kernel
theorem dX13_add_19 : decode cX13_add 19 = .ok (.ireturn, 1) := by decide +kernel
theorem dX13_add_20 : decode cX13_add 20 = .ok (.sipush 463, 3) := by decide +kernel
theorem dX13_add_23 : decode cX13_add 23 = .ok (.bipush 25, 2) := by decide +kernel
theorem dX13_add_25 : decode cX13_add 25 = .ok (.aload_n 0, 1) := by decide +kernel
theorem dX13_add_26 : decode cX13_add 26 = .ok (.getfield 33, 3) := by decide +kernel
theorem dX13_add_29 : decode cX13_add 29 = .ok (.sipush 462, 3) := by decide +kernel
theorem dX13_add_32 : decode cX13_add 32 = .ok (.iaload, 1) := by decide +kernel
theorem dX13_add_33 : decode cX13_add 33 = .ok (.imul, 1) := by decide +kernel
theorem dX13_add_34 : decode cX13_add 34 = .ok (.iadd, 1) := by decide +kernel
theorem dX13_add_35 : decode cX13_add 35 = .ok (.istore_n 1, 1) := by decide +kernel
theorem dX13_add_36 : decode cX13_add 36 = .ok (.iconst 0, 1) := by decide +kernel
theorem dX13_add_37 : decode cX13_add 37 = .ok (.istore_n 2, 1) := by decide +kernel
theorem dX13_add_38 : decode cX13_add 38 = .ok (.iload_n 2, 1) := by decide +kernel
theorem dX13_add_39 : decode cX13_add 39 = .ok (.bipush 25, 2) := by decide +kernel
theorem dX13_add_41 : decode cX13_add 41 = .ok (.if_icmp .ge 27, 3) := by decide +kernel
theorem dX13_add_44 : decode cX13_add 44 = .ok (.aload_n 0, 1) := by decide +kernel
theorem dX13_add_45 : decode cX13_add 45 = .ok (.getfield 33, 3) := by decide +kernel
theorem dX13_add_48 : decode cX13_add 48 = .ok (.iload_n 1, 1) := by decide +kernel
theorem dX13_add_49 : decode cX13_add 49 = .ok (.iload_n 2, 1) := by decide +kernel
theorem dX13_add_50 : decode cX13_add 50 = .ok (.iadd, 1) := by decide +kernel
theorem dX13_add_51 : decode cX13_add 51 = .ok (.aload_n 0, 1) := by decide +kernel
theorem dX13_add_52 : decode cX13_add 52 = .ok (.getfield 33, 3) := by decide +kernel
theorem dX13_add_55 : decode cX13_add 55 = .ok (.sipush 437, 3) := by decide +kernel
theorem dX13_add_58 : decode cX13_add 58 = .ok (.iload_n 2, 1) := by decide +kernel
theorem dX13_add_59 : decode cX13_add 59 = .ok (.iadd, 1) := by decide +kernel
theorem dX13_add_60 : decode cX13_add 60 = .ok (.iaload, 1) := by decide +kernel
theorem dX13_add_61 : decode cX13_add 61 = .ok (.iastore, 1) := by decide +kernel
theorem dX13_add_62 : decode cX13_add 62 = .ok (.iinc 2 1, 3) := by decide +kernel
theorem dX13_add_65 : decode cX13_add 65 = .ok (.goto (-27), 3) := by decide +kernel
theorem dX13_add_68 : decode cX13_add 68 = .ok (.aload_n 0, 1) := by decide +kernel
theorem dX13_add_69 : decode cX13_add 69 = .ok (.getfield 33, 3) := by decide +kernel
theorem dX13_add_72 : decode cX13_add 72 = .ok (.sipush 462, 3) := by decide +kernel
theorem dX13_add_75 : decode cX13_add 75 = .ok (.dup2, 1) := by decide +kernel
theorem dX13_add_76 : decode cX13_add 76 = .ok (.iaload, 1) := by decide +kernel
theorem dX13_add_77 : decode cX13_add 77 = .ok (.iconst 1, 1) := by decide +kernel
theorem dX13_add_78 : decode cX13_add 78 = .ok (.iadd, 1) := by decide +kernel
theorem dX13_add_79 : decode cX13_add 79 = .ok (.iastore, 1) := by decide +kernel
theorem dX13_add_80 : decode cX13_add 80 = .ok (.aload_n 0, 1) := by decide +kernel
theorem dX13_add_81 : decode cX13_add 81 = .ok (.getfield 33, 3) := by decide +kernel
theorem dX13_add_84 : decode cX13_add 84 = .ok (.sipush 462, 3) := by decide +kernel
theorem dX13_add_87 : decode cX13_add 87 = .ok (.iaload, 1) := by decide +kernel
theorem dX13_add_88 : decode cX13_add 88 = .ok (.iconst 1, 1) := by decide +kernel
theorem dX13_add_89 : decode cX13_add 89 = .ok (.isub, 1) := by decide +kernel
theorem dX13_add_90 : decode cX13_add 90 = .ok (.ireturn, 1) := by decide +kernel
theorem dX13_take_0 : decode cX13_take 0 = .ok (.aload_n 0, 1) := by decide +kernel
theorem dX13_take_1 : decode cX13_take 1 = .ok (.iconst 0, 1) := by decide +kernel
theorem dX13_take_2 : decode cX13_take 2 = .ok (.putfield 1, 3) := by decide +kernel
theorem dX13_take_5 : decode cX13_take 5 = .ok (.iload_n 1, 1) := by decide +kernel
theorem dX13_take_6 : decode cX13_take 6 = .ok (.iconst 0, 1) := by decide +kernel
theorem dX13_take_7 : decode cX13_take 7 = .ok (.aload_n 0, 1) := by decide +kernel
theorem dX13_take_8 : decode cX13_take 8 = .ok (.getfield 33, 3) := by decide +kernel
theorem dX13_take_11 : decode cX13_take 11 = .ok (.sipush 462, 3) := by decide +kernel
theorem dX13_take_14 : decode cX13_take 14 = .ok (.iaload, 1) := by decide +kernel
theorem dX13_take_15 : decode cX13_take 15 = .ok (.iconst 1, 1) := by decide +kernel
theorem dX13_take_16 : decode cX13_take 16 = .ok (.isub, 1) := by decide +kernel
theorem dX13_take_17 : decode cX13_take 17 = .ok (.invokestatic 204, 3) := by decide +kernel
theorem dX13_take_20 : decode cX13_take 20 = .ok (.ifCond .ne 5, 3) := by decide +kernel
theorem dX13_take_23 : decode cX13_take 23 = .ok (.iconst (-1), 1) := by decide +kernel
theorem dX13_take_24 : decode cX13_take 24 = .ok (.ireturn, 1) := by decide +kernel
theorem dX13_take_25 : decode cX13_take 25 = .ok (.iconst 0, 1) := by decide +kernel
theorem dX13_take_26 : decode cX13_take 26 = .ok (.istore_n 2, 1) := by decide +kernel
theorem dX13_take_27 : decode cX13_take 27 = .ok (.iload_n 2, 1) := by decide +kernel
theorem dX13_take_28 : decode cX13_take 28 = .ok (.bipush 25, 2) := by decide +kernel
theorem dX13_take_30 : decode cX13_take 30 = .ok (.if_icmp .ge 34, 3) := by decide +kernel
theorem dX13_take_33 : decode cX13_take 33 = .ok (.aload_n 0, 1) := by decide +kernel
theorem dX13_take_34 : decode cX13_take 34 = .ok (.getfield 33, 3) := by decide +kernel
theorem dX13_take_37 : decode cX13_take 37 = .ok (.sipush 437, 3) := by decide +kernel
theorem dX13_take_40 : decode cX13_take 40 = .ok (.iload_n 2, 1) := by decide +kernel
theorem dX13_take_41 : decode cX13_take 41 = .ok (.iadd, 1) := by decide +kernel
theorem dX13_take_42 : decode cX13_take 42 = .ok (.aload_n 0, 1) := by decide +kernel
theorem dX13_take_43 : decode cX13_take 43 = .ok (.getfield 33, 3) := by decide +kernel
theorem dX13_take_46 : decode cX13_take 46 = .ok (.sipush 463, 3) := by decide +kernel
theorem dX13_take_49 : decode cX13_take 49 = .ok (.bipush 25, 2) := by decide +kernel
theorem dX13_take_51 : decode cX13_take 51 = .ok (.iload_n 1, 1) := by decide +kernel
theorem dX13_take_52 : decode cX13_take 52 = .ok (.imul, 1) := by decide +kernel
theorem dX13_take_53 : decode cX13_take 53 = .ok (.iadd, 1) := by decide +kernel
theorem dX13_take_54 : decode cX13_take 54 = .ok (.iload_n 2, 1) := by decide +kernel
theorem dX13_take_55 : decode cX13_take 55 = .ok (.iadd, 1) := by decide +kernel
theorem dX13_take_56 : decode cX13_take 56 = .ok (.iaload, 1) := by decide +kernel
theorem dX13_take_57 : decode cX13_take 57 = .ok (.iastore, 1) := by decide +kernel
theorem dX13_take_58 : decode cX13_take 58 = .ok (.iinc 2 1, 3) := by decide +kernel
theorem dX13_take_61 : decode cX13_take 61 = .ok (.goto (-34), 3) := by decide +kernel
theorem dX13_take_64 : decode cX13_take 64 = .ok (.aload_n 0, 1) := by decide +kernel
theorem dX13_take_65 : decode cX13_take 65 = .ok (.getfield 33, 3) := by decide +kernel
theorem dX13_take_68 : decode cX13_take 68 = .ok (.sipush 437, 3) := by decide +kernel
theorem dX13_take_71 : decode cX13_take 71 = .ok (.iaload, 1) := by decide +kernel
theorem dX13_take_72 : decode cX13_take 72 = .ok (.ireturn, 1) := by decide +kernel
theorem dX13_book_0 : decode cX13_book 0 = .ok (.aload_n 0, 1) := by decide +kernel
theorem dX13_book_1 : decode cX13_book 1 = .ok (.iconst 0, 1) := by decide +kernel
theorem dX13_book_2 : decode cX13_book 2 = .ok (.putfield 1, 3) := by decide +kernel
theorem dX13_book_5 : decode cX13_book 5 = .ok (.aload_n 0, 1) := by decide +kernel
theorem dX13_book_6 : decode cX13_book 6 = .ok (.iload_n 1, 1) := by decide +kernel
theorem dX13_book_7 : decode cX13_book 7 = .ok (.invokevirtual 310, 3) := by decide +kernel
theorem dX13_book_10 : decode cX13_book 10 = .ok (.ifCond .ne 5, 3) := by decide +kernel
theorem dX13_book_13 : decode cX13_book 13 = .ok (.iconst (-1), 1) := by decide +kernel
theorem dX13_book_14 : decode cX13_book 14 = .ok (.ireturn, 1) := by decide +kernel
theorem dX13_book_15 : decode cX13_book 15 = .ok (.aload_n 0, 1) := by decide +kernel
theorem dX13_book_16 : decode cX13_book 16 = .ok (.invokevirtual 328, 3) := by decide +kernel
theorem dX13_book_19 : decode cX13_book 19 = .ok (.iconst 0, 1) := by decide +kernel
theorem dX13_book_20 : decode cX13_book 20 = .ok (.istore_n 2, 1) := by decide +kernel
theorem dX13_book_21 : decode cX13_book 21 = .ok (.iconst 0, 1) := by decide +kernel
theorem dX13_book_22 : decode cX13_book 22 = .ok (.istore_n 3, 1) := by decide +kernel
theorem dX13_book_23 : decode cX13_book 23 = .ok (.iload_n 3, 1) := by decide +kernel
theorem dX13_book_24 : decode cX13_book 24 = .ok (.aload_n 0, 1) := by decide +kernel
theorem dX13_book_25 : decode cX13_book 25 = .ok (.getfield 33, 3) := by decide +kernel
theorem dX13_book_28 : decode cX13_book 28 = .ok (.sipush 462, 3) := by decide +kernel
theorem dX13_book_31 : decode cX13_book 31 = .ok (.iaload, 1) := by decide +kernel
theorem dX13_book_32 : decode cX13_book 32 = .ok (.if_icmp .ge 153, 3) := by decide +kernel
theorem dX13_book_35 : decode cX13_book 35 = .ok (.sipush 463, 3) := by decide +kernel
theorem dX13_book_38 : decode cX13_book 38 = .ok (.bipush 25, 2) := by decide +kernel
theorem dX13_book_40 : decode cX13_book 40 = .ok (.iload_n 3, 1) := by decide +kernel
theorem dX13_book_41 : decode cX13_book 41 = .ok (.imul, 1) := by decide +kernel
theorem dX13_book_42 : decode cX13_book 42 = .ok (.iadd, 1) := by decide +kernel
theorem dX13_book_43 : decode cX13_book 43 = .ok (.istore 4, 2) := by decide +kernel
theorem dX13_book_45 : decode cX13_book 45 = .ok (.iconst 0, 1) := by decide +kernel
theorem dX13_book_46 : decode cX13_book 46 = .ok (.istore 5, 2) := by decide +kernel
theorem dX13_book_48 : decode cX13_book 48 = .ok (.iload 5, 2) := by decide +kernel
theorem dX13_book_50 : decode cX13_book 50 = .ok (.aload_n 0, 1) := by decide +kernel
theorem dX13_book_51 : decode cX13_book 51 = .ok (.getfield 33, 3) := by decide +kernel
theorem dX13_book_54 : decode cX13_book 54 = .ok (.iload 4, 2) := by decide +kernel
theorem dX13_book_56 : decode cX13_book 56 = .ok (.iaload, 1) := by decide +kernel
theorem dX13_book_57 : decode cX13_book 57 = .ok (.if_icmp .ge 28, 3) := by decide +kernel
theorem dX13_book_60 : decode cX13_book 60 = .ok (.aload_n 0, 1) := by decide +kernel
theorem dX13_book_61 : decode cX13_book 61 = .ok (.getfield 47, 3) := by decide +kernel
theorem dX13_book_64 : decode cX13_book 64 = .ok (.iload 5, 2) := by decide +kernel
theorem dX13_book_66 : decode cX13_book 66 = .ok (.aload_n 0, 1) := by decide +kernel
theorem dX13_book_67 : decode cX13_book 67 = .ok (.getfield 33, 3) := by decide +kernel
theorem dX13_book_70 : decode cX13_book 70 = .ok (.iload 4, 2) := by decide +kernel
theorem dX13_book_72 : decode cX13_book 72 = .ok (.iconst 1, 1) := by decide +kernel
theorem dX13_book_73 : decode cX13_book 73 = .ok (.iadd, 1) := by decide +kernel
theorem dX13_book_74 : decode cX13_book 74 = .ok (.iload 5, 2) := by decide +kernel
theorem dX13_book_76 : decode cX13_book 76 = .ok (.iadd, 1) := by decide +kernel
theorem dX13_book_77 : decode cX13_book 77 = .ok (.iaload, 1) := by decide +kernel
theorem dX13_book_78 : decode cX13_book 78 = .ok (.iastore, 1) := by decide +kernel
theorem dX13_book_79 : decode cX13_book 79 = .ok (.iinc 5 1, 3) := by decide +kernel
theorem dX13_book_82 : decode cX13_book 82 = .ok (.goto (-34), 3) := by decide +kernel
theorem dX13_book_85 : decode cX13_book 85 = .ok (.aload_n 0, 1) := by decide +kernel
theorem dX13_book_86 : decode cX13_book 86 = .ok (.aload_n 0, 1) := by decide +kernel
theorem dX13_book_87 : decode cX13_book 87 = .ok (.getfield 47, 3) := by decide +kernel
theorem dX13_book_90 : decode cX13_book 90 = .ok (.aload_n 0, 1) := by decide +kernel
theorem dX13_book_91 : decode cX13_book 91 = .ok (.getfield 33, 3) := by decide +kernel
theorem dX13_book_94 : decode cX13_book 94 = .ok (.iload 4, 2) := by decide +kernel
theorem dX13_book_96 : decode cX13_book 96 = .ok (.iaload, 1) := by decide +kernel
theorem dX13_book_97 : decode cX13_book 97 = .ok (.invokevirtual 331, 3) := by decide +kernel
theorem dX13_book_100 : decode cX13_book 100 = .ok (.istore 5, 2) := by decide +kernel
theorem dX13_book_102 : decode cX13_book 102 = .ok (.iconst 1, 1) := by decide +kernel
theorem dX13_book_103 : decode cX13_book 103 = .ok (.istore 6, 2) := by decide +kernel
theorem dX13_book_105 : decode cX13_book 105 = .ok (.iload 6, 2) := by decide +kernel
theorem dX13_book_107 : decode cX13_book 107 = .ok (.aload_n 0, 1) := by decide +kernel
theorem dX13_book_108 : decode cX13_book 108 = .ok (.getfield 33, 3) := by decide +kernel
theorem dX13_book_111 : decode cX13_book 111 = .ok (.iconst 3, 1) := by decide +kernel
theorem dX13_book_112 : decode cX13_book 112 = .ok (.iaload, 1) := by decide +kernel
theorem dX13_book_113 : decode cX13_book 113 = .ok (.if_icmp .gt 66, 3) := by decide +kernel
theorem dX13_book_116 : decode cX13_book 116 = .ok (.iload_n 1, 1) := by decide +kernel
theorem dX13_book_117 : decode cX13_book 117 = .ok (.ifCond .le 12, 3) := by decide +kernel
theorem dX13_book_120 : decode cX13_book 120 = .ok (.iload 6, 2) := by decide +kernel
theorem dX13_book_122 : decode cX13_book 122 = .ok (.iload_n 1, 1) := by decide +kernel
theorem dX13_book_123 : decode cX13_book 123 = .ok (.if_icmp .eq 6, 3) := by decide +kernel
theorem dX13_book_126 : decode cX13_book 126 = .ok (.goto 47, 3) := by decide +kernel
theorem dX13_book_129 : decode cX13_book 129 = .ok (.aload_n 0, 1) := by decide +kernel
theorem dX13_book_130 : decode cX13_book 130 = .ok (.aload_n 0, 1) := by decide +kernel
theorem dX13_book_131 : decode cX13_book 131 = .ok (.getfield 47, 3) := by decide +kernel
theorem dX13_book_134 : decode cX13_book 134 = .ok (.aload_n 0, 1) := by decide +kernel
theorem dX13_book_135 : decode cX13_book 135 = .ok (.getfield 33, 3) := by decide +kernel
theorem dX13_book_138 : decode cX13_book 138 = .ok (.iload 4, 2) := by decide +kernel
theorem dX13_book_140 : decode cX13_book 140 = .ok (.iaload, 1) := by decide +kernel
theorem dX13_book_141 : decode cX13_book 141 = .ok (.iload 6, 2) := by decide +kernel
theorem dX13_book_143 : decode cX13_book 143 = .ok (.invokevirtual 306, 3) := by decide +kernel
theorem dX13_book_146 : decode cX13_book 146 = .ok (.iload_n 2, 1) := by decide +kernel
theorem dX13_book_147 : decode cX13_book 147 = .ok (.aload_n 0, 1) := by decide +kernel
theorem dX13_book_148 : decode cX13_book 148 = .ok (.aload_n 0, 1) := by decide +kernel
theorem dX13_book_149 : decode cX13_book 149 = .ok (.getfield 50, 3) := by decide +kernel
theorem dX13_book_152 : decode cX13_book 152 = .ok (.aload_n 0, 1) := by decide +kernel
theorem dX13_book_153 : decode cX13_book 153 = .ok (.getfield 303, 3) := by decide +kernel
theorem dX13_book_156 : decode cX13_book 156 = .ok (.invokevirtual 331, 3) := by decide +kernel
theorem dX13_book_159 : decode cX13_book 159 = .ok (.iload 5, 2) := by decide +kernel
theorem dX13_book_161 : decode cX13_book 161 = .ok (.if_icmp .eq 9, 3) := by decide +kernel
theorem dX13_book_164 : decode cX13_book 164 = .ok (.iconst 1, 1) := by decide +kernel
theorem dX13_book_165 : decode cX13_book 165 = .ok (.iload_n 3, 1) := by decide +kernel
theorem dX13_book_166 : decode cX13_book 166 = .ok (.ishl, 1) := by decide +kernel
theorem dX13_book_167 : decode cX13_book 167 = .ok (.goto 4, 3) := by decide +kernel
theorem dX13_book_170 : decode cX13_book 170 = .ok (.iconst 0, 1) := by decide +kernel
theorem dX13_book_171 : decode cX13_book 171 = .ok (.ior, 1) := by decide +kernel
theorem dX13_book_172 : decode cX13_book 172 = .ok (.istore_n 2, 1) := by decide +kernel
theorem dX13_book_173 : decode cX13_book 173 = .ok (.iinc 6 1, 3) := by decide +kernel
theorem dX13_book_176 : decode cX13_book 176 = .ok (.goto (-71), 3) := by decide +kernel
theorem dX13_book_179 : decode cX13_book 179 = .ok (.iinc 3 1, 3) := by decide +kernel
theorem dX13_book_182 : decode cX13_book 182 = .ok (.goto (-159), 3) := by decide +kernel
theorem dX13_book_185 : decode cX13_book 185 = .ok (.iload_n 2, 1) := by decide +kernel
theorem dX13_book_186 : decode cX13_book 186 = .ok (.ireturn, 1) := by decide +kernel
theorem dX13_image_0 : decode cX13_image 0 = .ok (.aload_n 0, 1) := by decide +kernel
theorem dX13_image_1 : decode cX13_image 1 = .ok (.iconst 0, 1) := by decide +kernel
theorem dX13_image_2 : decode cX13_image 2 = .ok (.putfield 1, 3) := by decide +kernel
theorem dX13_image_5 : decode cX13_image 5 = .ok (.iload_n 1, 1) := by decide +kernel
theorem dX13_image_6 : decode cX13_image 6 = .ok (.iconst 0, 1) := by decide +kernel
theorem dX13_image_7 : decode cX13_image 7 = .ok (.iconst 1, 1) := by decide +kernel
theorem dX13_image_8 : decode cX13_image 8 = .ok (.invokestatic 204, 3) := by decide +kernel
theorem dX13_image_11 : decode cX13_image 11 = .ok (.ifCond .ne 5, 3) := by decide +kernel
theorem dX13_image_14 : decode cX13_image 14 = .ok (.iconst 0, 1) := by decide +kernel
theorem dX13_image_15 : decode cX13_image 15 = .ok (.ireturn, 1) := by decide +kernel
theorem dX13_image_16 : decode cX13_image 16 = .ok (.iconst 0, 1) := by decide +kernel
theorem dX13_image_17 : decode cX13_image 17 = .ok (.istore_n 2, 1) := by decide +kernel
theorem dX13_image_18 : decode cX13_image 18 = .ok (.iload_n 2, 1) := by decide +kernel
theorem dX13_image_19 : decode cX13_image 19 = .ok (.sipush 713, 3) := by decide +kernel
theorem dX13_image_22 : decode cX13_image 22 = .ok (.if_icmp .ge 27, 3) := by decide +kernel
theorem dX13_image_25 : decode cX13_image 25 = .ok (.aload_n 0, 1) := by decide +kernel
theorem dX13_image_26 : decode cX13_image 26 = .ok (.getfield 117, 3) := by decide +kernel
theorem dX13_image_29 : decode cX13_image 29 = .ok (.sipush 713, 3) := by decide +kernel
theorem dX13_image_32 : decode cX13_image 32 = .ok (.iload_n 1, 1) := by decide +kernel
theorem dX13_image_33 : decode cX13_image 33 = .ok (.imul, 1) := by decide +kernel
theorem dX13_image_34 : decode cX13_image 34 = .ok (.iload_n 2, 1) := by decide +kernel
theorem dX13_image_35 : decode cX13_image 35 = .ok (.iadd, 1) := by decide +kernel
theorem dX13_image_36 : decode cX13_image 36 = .ok (.aload_n 0, 1) := by decide +kernel
theorem dX13_image_37 : decode cX13_image 37 = .ok (.getfield 33, 3) := by decide +kernel
theorem dX13_image_40 : decode cX13_image 40 = .ok (.iload_n 2, 1) := by decide +kernel
theorem dX13_image_41 : decode cX13_image 41 = .ok (.iaload, 1) := by decide +kernel
theorem dX13_image_42 : decode cX13_image 42 = .ok (.iastore, 1) := by decide +kernel
theorem dX13_image_43 : decode cX13_image 43 = .ok (.iinc 2 1, 3) := by decide +kernel
theorem dX13_image_46 : decode cX13_image 46 = .ok (.goto (-28), 3) := by decide +kernel
theorem dX13_image_49 : decode cX13_image 49 = .ok (.iconst 0, 1) := by decide +kernel
theorem dX13_image_50 : decode cX13_image 50 = .ok (.istore_n 2, 1) := by decide +kernel
theorem dX13_image_51 : decode cX13_image 51 = .ok (.iload_n 2, 1) := by decide +kernel
theorem dX13_image_52 : decode cX13_image 52 = .ok (.bipush 16, 2) := by decide +kernel
theorem dX13_image_54 : decode cX13_image 54 = .ok (.if_icmp .ge 26, 3) := by decide +kernel
theorem dX13_image_57 : decode cX13_image 57 = .ok (.aload_n 0, 1) := by decide +kernel
theorem dX13_image_58 : decode cX13_image 58 = .ok (.getfield 120, 3) := by decide +kernel
theorem dX13_image_61 : decode cX13_image 61 = .ok (.bipush 16, 2) := by decide +kernel
theorem dX13_image_63 : decode cX13_image 63 = .ok (.iload_n 1, 1) := by decide +kernel
theorem dX13_image_64 : decode cX13_image 64 = .ok (.imul, 1) := by decide +kernel
theorem dX13_image_65 : decode cX13_image 65 = .ok (.iload_n 2, 1) := by decide +kernel
theorem dX13_image_66 : decode cX13_image 66 = .ok (.iadd, 1) := by decide +kernel
theorem dX13_image_67 : decode cX13_image 67 = .ok (.aload_n 0, 1) := by decide +kernel
theorem dX13_image_68 : decode cX13_image 68 = .ok (.getfield 40, 3) := by decide +kernel
theorem dX13_image_71 : decode cX13_image 71 = .ok (.iload_n 2, 1) := by decide +kernel
theorem dX13_image_72 : decode cX13_image 72 = .ok (.laload, 1) := by decide +kernel
theorem dX13_image_73 : decode cX13_image 73 = .ok (.lastore, 1) := by decide +kernel
theorem dX13_image_74 : decode cX13_image 74 = .ok (.iinc 2 1, 3) := by decide +kernel
theorem dX13_image_77 : decode cX13_image 77 = .ok (.goto (-26), 3) := by decide +kernel
theorem dX13_image_80 : decode cX13_image 80 = .ok (.aload_n 0, 1) := by decide +kernel
theorem dX13_image_81 : decode cX13_image 81 = .ok (.getfield 123, 3) := by decide +kernel
theorem dX13_image_84 : decode cX13_image 84 = .ok (.iload_n 1, 1) := by decide +kernel
theorem dX13_image_85 : decode cX13_image 85 = .ok (.iconst 1, 1) := by decide +kernel
theorem dX13_image_86 : decode cX13_image 86 = .ok (.bastore, 1) := by decide +kernel
theorem dX13_image_87 : decode cX13_image 87 = .ok (.iconst 1, 1) := by decide +kernel
theorem dX13_image_88 : decode cX13_image 88 = .ok (.ireturn, 1) := by decide +kernel
theorem dX13_restore_0 : decode cX13_restore 0 = .ok (.aload_n 0, 1) := by decide +kernel
theorem dX13_restore_1 : decode cX13_restore 1 = .ok (.iconst 0, 1) := by decide +kernel
theorem dX13_restore_2 : decode cX13_restore 2 = .ok (.putfield 1, 3) := by decide +kernel
theorem dX13_restore_5 : decode cX13_restore 5 = .ok (.iload_n 1, 1) := by decide +kernel
theorem dX13_restore_6 : decode cX13_restore 6 = .ok (.iconst 0, 1) := by decide +kernel
theorem dX13_restore_7 : decode cX13_restore 7 = .ok (.iconst 1, 1) := by decide +kernel
theorem dX13_restore_8 : decode cX13_restore 8 = .ok (.invokestatic 204, 3) := by decide +kernel
theorem dX13_restore_11 : decode cX13_restore 11 = .ok (.ifCond .eq 12, 3) := by decide +kernel
theorem dX13_restore_14 : decode cX13_restore 14 = .ok (.aload_n 0, 1) := by decide +kernel
theorem dX13_restore_15 : decode cX13_restore 15 = .ok (.getfield 123, 3) := by decide +kernel
theorem dX13_restore_18 : decode cX13_restore 18 = .ok (.iload_n 1, 1) := by decide +kernel
theorem dX13_restore_19 : decode cX13_restore 19 = .ok (.baload, 1) := by decide +kernel
theorem dX13_restore_20 : decode cX13_restore 20 = .ok (.ifCond .ne 5, 3) := by decide +kernel
theorem dX13_restore_23 : decode cX13_restore 23 = .ok (.iconst 0, 1) := by decide +kernel
theorem dX13_restore_24 : decode cX13_restore 24 = .ok (.ireturn, 1) := by decide +kernel
theorem dX13_restore_25 : decode cX13_restore 25 = .ok (.iconst 0, 1) := by decide +kernel
theorem dX13_restore_26 : decode cX13_restore 26 = .ok (.istore_n 2, 1) := by decide +kernel
theorem dX13_restore_27 : decode cX13_restore 27 = .ok (.iload_n 2, 1) := by decide +kernel
theorem dX13_restore_28 : decode cX13_restore 28 = .ok (.sipush 713, 3) := by decide +kernel
theorem dX13_restore_31 : decode cX13_restore 31 = .ok (.if_icmp .ge 27, 3) := by decide +kernel
theorem dX13_restore_34 : decode cX13_restore 34 = .ok (.aload_n 0, 1) := by decide +kernel
theorem dX13_restore_35 : decode cX13_restore 35 = .ok (.getfield 33, 3) := by decide +kernel
theorem dX13_restore_38 : decode cX13_restore 38 = .ok (.iload_n 2, 1) := by decide +kernel
theorem dX13_restore_39 : decode cX13_restore 39 = .ok (.aload_n 0, 1) := by decide +kernel
theorem dX13_restore_40 : decode cX13_restore 40 = .ok (.getfield 117, 3) := by decide +kernel
theorem dX13_restore_43 : decode cX13_restore 43 = .ok (.sipush 713, 3) := by decide +kernel
theorem dX13_restore_46 : decode cX13_restore 46 = .ok (.iload_n 1, 1) := by decide +kernel
theorem dX13_restore_47 : decode cX13_restore 47 = .ok (.imul, 1) := by decide +kernel
theorem dX13_restore_48 : decode cX13_restore 48 = .ok (.iload_n 2, 1) := by decide +kernel
theorem dX13_restore_49 : decode cX13_restore 49 = .ok (.iadd, 1) := by decide +kernel
theorem dX13_restore_50 : decode cX13_restore 50 = .ok (.iaload, 1) := by decide +kernel
theorem dX13_restore_51 : decode cX13_restore 51 = .ok (.iastore, 1) := by decide +kernel
theorem dX13_restore_52 : decode cX13_restore 52 = .ok (.iinc 2 1, 3) := by decide +kernel
theorem dX13_restore_55 : decode cX13_restore 55 = .ok (.goto (-28), 3) := by decide +kernel
theorem dX13_restore_58 : decode cX13_restore 58 = .ok (.iconst 0, 1) := by decide +kernel
theorem dX13_restore_59 : decode cX13_restore 59 = .ok (.istore_n 2, 1) := by decide +kernel
theorem dX13_restore_60 : decode cX13_restore 60 = .ok (.iload_n 2, 1) := by decide +kernel
theorem dX13_restore_61 : decode cX13_restore 61 = .ok (.bipush 16, 2) := by decide +kernel
theorem dX13_restore_63 : decode cX13_restore 63 = .ok (.if_icmp .ge 26, 3) := by decide +kernel
theorem dX13_restore_66 : decode cX13_restore 66 = .ok (.aload_n 0, 1) := by decide +kernel
theorem dX13_restore_67 : decode cX13_restore 67 = .ok (.getfield 40, 3) := by decide +kernel
theorem dX13_restore_70 : decode cX13_restore 70 = .ok (.iload_n 2, 1) := by decide +kernel
theorem dX13_restore_71 : decode cX13_restore 71 = .ok (.aload_n 0, 1) := by decide +kernel
theorem dX13_restore_72 : decode cX13_restore 72 = .ok (.getfield 120, 3) := by decide +kernel
theorem dX13_restore_75 : decode cX13_restore 75 = .ok (.bipush 16, 2) := by decide +kernel
theorem dX13_restore_77 : decode cX13_restore 77 = .ok (.iload_n 1, 1) := by decide +kernel
theorem dX13_restore_78 : decode cX13_restore 78 = .ok (.imul, 1) := by decide +kernel
theorem dX13_restore_79 : decode cX13_restore 79 = .ok (.iload_n 2, 1) := by decide +kernel
theorem dX13_restore_80 : decode cX13_restore 80 = .ok (.iadd, 1) := by decide +kernel
theorem dX13_restore_81 : decode cX13_restore 81 = .ok (.laload, 1) := by decide +kernel
theorem dX13_restore_82 : decode cX13_restore 82 = .ok (.lastore, 1) := by decide +kernel
theorem dX13_restore_83 : decode cX13_restore 83 = .ok (.iinc 2 1, 3) := by decide +kernel
theorem dX13_restore_86 : decode cX13_restore 86 = .ok (.goto (-26), 3) := by decide +kernel
theorem dX13_restore_89 : decode cX13_restore 89 = .ok (.aload_n 0, 1) := by decide +kernel
theorem dX13_restore_90 : decode cX13_restore 90 = .ok (.iconst 1, 1) := by decide +kernel
theorem dX13_restore_91 : decode cX13_restore 91 = .ok (.putfield 65, 3) := by decide +kernel
theorem dX13_restore_94 : decode cX13_restore 94 = .ok (.iconst 1, 1) := by decide +kernel
theorem dX13_restore_95 : decode cX13_restore 95 = .ok (.ireturn, 1) := by decide +kernel
theorem dX13_count__0 : decode cX13_count_ 0 = .ok (.aload_n 0, 1) := by decide +kernel
theorem dX13_count__1 : decode cX13_count_ 1 = .ok (.iconst 0, 1) := by decide +kernel
theorem dX13_count__2 : decode cX13_count_ 2 = .ok (.putfield 1, 3) := by decide +kernel
theorem dX13_count__5 : decode cX13_count_ 5 = .ok (.iload_n 1, 1) := by decide +kernel
theorem dX13_count__6 : decode cX13_count_ 6 = .ok (.tableswitch 104 0 7 #[46, 53, 60, 67, 74, 81, 90, 99], 46) := by decide +kernel
theorem dX13_count__52 : decode cX13_count_ 52 = .ok (.aload_n 0, 1) := by decide +kernel
theorem dX13_count__53 : decode cX13_count_ 53 = .ok (.getfield 33, 3) := by decide +kernel
theorem dX13_count__56 : decode cX13_count_ 56 = .ok (.iconst 0, 1) := by decide +kernel
theorem dX13_count__57 : decode cX13_count_ 57 = .ok (.iaload, 1) := by decide +kernel
theorem dX13_count__58 : decode cX13_count_ 58 = .ok (.ireturn, 1) := by decide +kernel
theorem dX13_count__59 : decode cX13_count_ 59 = .ok (.aload_n 0, 1) := by decide +kernel
theorem dX13_count__60 : decode cX13_count_ 60 = .ok (.getfield 33, 3) := by decide +kernel
theorem dX13_count__63 : decode cX13_count_ 63 = .ok (.iconst 1, 1) := by decide +kernel
theorem dX13_count__64 : decode cX13_count_ 64 = .ok (.iaload, 1) := by decide +kernel
theorem dX13_count__65 : decode cX13_count_ 65 = .ok (.ireturn, 1) := by decide +kernel
theorem dX13_count__66 : decode cX13_count_ 66 = .ok (.aload_n 0, 1) := by decide +kernel
theorem dX13_count__67 : decode cX13_count_ 67 = .ok (.getfield 33, 3) := by decide +kernel
theorem dX13_count__70 : decode cX13_count_ 70 = .ok (.iconst 2, 1) := by decide +kernel
theorem dX13_count__71 : decode cX13_count_ 71 = .ok (.iaload, 1) := by decide +kernel
theorem dX13_count__72 : decode cX13_count_ 72 = .ok (.ireturn, 1) := by decide +kernel
theorem dX13_count__73 : decode cX13_count_ 73 = .ok (.aload_n 0, 1) := by decide +kernel
theorem dX13_count__74 : decode cX13_count_ 74 = .ok (.getfield 33, 3) := by decide +kernel
theorem dX13_count__77 : decode cX13_count_ 77 = .ok (.iconst 3, 1) := by decide +kernel
theorem dX13_count__78 : decode cX13_count_ 78 = .ok (.iaload, 1) := by decide +kernel
theorem dX13_count__79 : decode cX13_count_ 79 = .ok (.ireturn, 1) := by decide +kernel
theorem dX13_count__80 : decode cX13_count_ 80 = .ok (.aload_n 0, 1) := by decide +kernel
theorem dX13_count__81 : decode cX13_count_ 81 = .ok (.getfield 33, 3) := by decide +kernel
theorem dX13_count__84 : decode cX13_count_ 84 = .ok (.iconst 4, 1) := by decide +kernel
theorem dX13_count__85 : decode cX13_count_ 85 = .ok (.iaload, 1) := by decide +kernel
theorem dX13_count__86 : decode cX13_count_ 86 = .ok (.ireturn, 1) := by decide +kernel
theorem dX13_count__87 : decode cX13_count_ 87 = .ok (.aload_n 0, 1) := by decide +kernel
theorem dX13_count__88 : decode cX13_count_ 88 = .ok (.getfield 33, 3) := by decide +kernel
theorem dX13_count__91 : decode cX13_count_ 91 = .ok (.sipush 437, 3) := by decide +kernel
theorem dX13_count__94 : decode cX13_count_ 94 = .ok (.iaload, 1) := by decide +kernel
theorem dX13_count__95 : decode cX13_count_ 95 = .ok (.ireturn, 1) := by decide +kernel
theorem dX13_count__96 : decode cX13_count_ 96 = .ok (.aload_n 0, 1) := by decide +kernel
theorem dX13_count__97 : decode cX13_count_ 97 = .ok (.getfield 33, 3) := by decide +kernel
theorem dX13_count__100 : decode cX13_count_ 100 = .ok (.sipush 462, 3) := by decide +kernel
theorem dX13_count__103 : decode cX13_count_ 103 = .ok (.iaload, 1) := by decide +kernel
theorem dX13_count__104 : decode cX13_count_ 104 = .ok (.ireturn, 1) := by decide +kernel
theorem dX13_count__105 : decode cX13_count_ 105 = .ok (.aload_n 0, 1) := by decide +kernel
theorem dX13_count__106 : decode cX13_count_ 106 = .ok (.getfield 7, 3) := by decide +kernel
theorem dX13_count__109 : decode cX13_count_ 109 = .ok (.ireturn, 1) := by decide +kernel
theorem dX13_count__110 : decode cX13_count_ 110 = .ok (.iconst (-1), 1) := by decide +kernel
theorem dX13_count__111 : decode cX13_count_ 111 = .ok (.ireturn, 1) := by decide +kernel
theorem dJx29ce0_ordinal_8abf5_0 : decode cJx29ce0_ordinal_8abf5 0 = .ok (.aload_n 0, 1) := by decide +kernel
theorem dJx29ce0_ordinal_8abf5_1 : decode cJx29ce0_ordinal_8abf5 1 = .ok (.getfield 7, 3) := by decide +kernel
theorem dJx29ce0_ordinal_8abf5_4 : decode cJx29ce0_ordinal_8abf5 4 = .ok (.ireturn, 1) := by decide +kernel
theorem dJ6_bitCount_0f7a4_0 : decode cJ6_bitCount_0f7a4 0 = .ok (.iload_n 0, 1) := by decide +kernel
theorem dJ6_bitCount_0f7a4_1 : decode cJ6_bitCount_0f7a4 1 = .ok (.iload_n 0, 1) := by decide +kernel
theorem dJ6_bitCount_0f7a4_2 : decode cJ6_bitCount_0f7a4 2 = .ok (.iconst 1, 1) := by decide +kernel
theorem dJ6_bitCount_0f7a4_3 : decode cJ6_bitCount_0f7a4 3 = .ok (.iushr, 1) := by decide +kernel
theorem dJ6_bitCount_0f7a4_4 : decode cJ6_bitCount_0f7a4 4 = .ok (.ldc_w 265, 3) := by decide +kernel
theorem dJ6_bitCount_0f7a4_7 : decode cJ6_bitCount_0f7a4 7 = .ok (.iand, 1) := by decide +kernel
theorem dJ6_bitCount_0f7a4_8 : decode cJ6_bitCount_0f7a4 8 = .ok (.isub, 1) := by decide +kernel
theorem dJ6_bitCount_0f7a4_9 : decode cJ6_bitCount_0f7a4 9 = .ok (.istore_n 0, 1) := by decide +kernel
theorem dJ6_bitCount_0f7a4_10 : decode cJ6_bitCount_0f7a4 10 = .ok (.iload_n 0, 1) := by decide +kernel
theorem dJ6_bitCount_0f7a4_11 : decode cJ6_bitCount_0f7a4 11 = .ok (.ldc_w 266, 3) := by decide +kernel
theorem dJ6_bitCount_0f7a4_14 : decode cJ6_bitCount_0f7a4 14 = .ok (.iand, 1) := by decide +kernel
theorem dJ6_bitCount_0f7a4_15 : decode cJ6_bitCount_0f7a4 15 = .ok (.iload_n 0, 1) := by decide +kernel
theorem dJ6_bitCount_0f7a4_16 : decode cJ6_bitCount_0f7a4 16 = .ok (.iconst 2, 1) := by decide +kernel
theorem dJ6_bitCount_0f7a4_17 : decode cJ6_bitCount_0f7a4 17 = .ok (.iushr, 1) := by decide +kernel
theorem dJ6_bitCount_0f7a4_18 : decode cJ6_bitCount_0f7a4 18 = .ok (.ldc_w 266, 3) := by decide +kernel
theorem dJ6_bitCount_0f7a4_21 : decode cJ6_bitCount_0f7a4 21 = .ok (.iand, 1) := by decide +kernel
theorem dJ6_bitCount_0f7a4_22 : decode cJ6_bitCount_0f7a4 22 = .ok (.iadd, 1) := by decide +kernel
theorem dJ6_bitCount_0f7a4_23 : decode cJ6_bitCount_0f7a4 23 = .ok (.istore_n 0, 1) := by decide +kernel
theorem dJ6_bitCount_0f7a4_24 : decode cJ6_bitCount_0f7a4 24 = .ok (.iload_n 0, 1) := by decide +kernel
theorem dJ6_bitCount_0f7a4_25 : decode cJ6_bitCount_0f7a4 25 = .ok (.iload_n 0, 1) := by decide +kernel
theorem dJ6_bitCount_0f7a4_26 : decode cJ6_bitCount_0f7a4 26 = .ok (.iconst 4, 1) := by decide +kernel
theorem dJ6_bitCount_0f7a4_27 : decode cJ6_bitCount_0f7a4 27 = .ok (.iushr, 1) := by decide +kernel
theorem dJ6_bitCount_0f7a4_28 : decode cJ6_bitCount_0f7a4 28 = .ok (.iadd, 1) := by decide +kernel
theorem dJ6_bitCount_0f7a4_29 : decode cJ6_bitCount_0f7a4 29 = .ok (.ldc_w 267, 3) := by decide +kernel
theorem dJ6_bitCount_0f7a4_32 : decode cJ6_bitCount_0f7a4 32 = .ok (.iand, 1) := by decide +kernel
theorem dJ6_bitCount_0f7a4_33 : decode cJ6_bitCount_0f7a4 33 = .ok (.istore_n 0, 1) := by decide +kernel
theorem dJ6_bitCount_0f7a4_34 : decode cJ6_bitCount_0f7a4 34 = .ok (.iload_n 0, 1) := by decide +kernel
theorem dJ6_bitCount_0f7a4_35 : decode cJ6_bitCount_0f7a4 35 = .ok (.iload_n 0, 1) := by decide +kernel
theorem dJ6_bitCount_0f7a4_36 : decode cJ6_bitCount_0f7a4 36 = .ok (.bipush 8, 2) := by decide +kernel
theorem dJ6_bitCount_0f7a4_38 : decode cJ6_bitCount_0f7a4 38 = .ok (.iushr, 1) := by decide +kernel
theorem dJ6_bitCount_0f7a4_39 : decode cJ6_bitCount_0f7a4 39 = .ok (.iadd, 1) := by decide +kernel
theorem dJ6_bitCount_0f7a4_40 : decode cJ6_bitCount_0f7a4 40 = .ok (.istore_n 0, 1) := by decide +kernel
theorem dJ6_bitCount_0f7a4_41 : decode cJ6_bitCount_0f7a4 41 = .ok (.iload_n 0, 1) := by decide +kernel
theorem dJ6_bitCount_0f7a4_42 : decode cJ6_bitCount_0f7a4 42 = .ok (.iload_n 0, 1) := by decide +kernel
theorem dJ6_bitCount_0f7a4_43 : decode cJ6_bitCount_0f7a4 43 = .ok (.bipush 16, 2) := by decide +kernel
theorem dJ6_bitCount_0f7a4_45 : decode cJ6_bitCount_0f7a4 45 = .ok (.iushr, 1) := by decide +kernel
theorem dJ6_bitCount_0f7a4_46 : decode cJ6_bitCount_0f7a4 46 = .ok (.iadd, 1) := by decide +kernel
theorem dJ6_bitCount_0f7a4_47 : decode cJ6_bitCount_0f7a4 47 = .ok (.istore_n 0, 1) := by decide +kernel
theorem dJ6_bitCount_0f7a4_48 : decode cJ6_bitCount_0f7a4 48 = .ok (.iload_n 0, 1) := by decide +kernel
theorem dJ6_bitCount_0f7a4_49 : decode cJ6_bitCount_0f7a4 49 = .ok (.bipush 63, 2) := by decide +kernel
theorem dJ6_bitCount_0f7a4_51 : decode cJ6_bitCount_0f7a4 51 = .ok (.iand, 1) := by decide +kernel
theorem dJ6_bitCount_0f7a4_52 : decode cJ6_bitCount_0f7a4 52 = .ok (.ireturn, 1) := by decide +kernel
theorem dJ9_max_7cf53_0 : decode cJ9_max_7cf53 0 = .ok (.iload_n 0, 1) := by decide +kernel
theorem dJ9_max_7cf53_1 : decode cJ9_max_7cf53 1 = .ok (.iload_n 1, 1) := by decide +kernel
theorem dJ9_max_7cf53_2 : decode cJ9_max_7cf53 2 = .ok (.if_icmp .lt 7, 3) := by decide +kernel
theorem dJ9_max_7cf53_5 : decode cJ9_max_7cf53 5 = .ok (.iload_n 0, 1) := by decide +kernel
theorem dJ9_max_7cf53_6 : decode cJ9_max_7cf53 6 = .ok (.goto 4, 3) := by decide +kernel
theorem dJ9_max_7cf53_9 : decode cJ9_max_7cf53 9 = .ok (.iload_n 1, 1) := by decide +kernel
theorem dJ9_max_7cf53_10 : decode cJ9_max_7cf53 10 = .ok (.ireturn, 1) := by decide +kernel
theorem dJ9_min_7cf53_0 : decode cJ9_min_7cf53 0 = .ok (.iload_n 0, 1) := by decide +kernel
theorem dJ9_min_7cf53_1 : decode cJ9_min_7cf53 1 = .ok (.iload_n 1, 1) := by decide +kernel
theorem dJ9_min_7cf53_2 : decode cJ9_min_7cf53 2 = .ok (.if_icmp .gt 7, 3) := by decide +kernel
theorem dJ9_min_7cf53_5 : decode cJ9_min_7cf53 5 = .ok (.iload_n 0, 1) := by decide +kernel
theorem dJ9_min_7cf53_6 : decode cJ9_min_7cf53 6 = .ok (.goto 4, 3) := by decide +kernel
theorem dJ9_min_7cf53_9 : decode cJ9_min_7cf53 9 = .ok (.iload_n 1, 1) := by decide +kernel
theorem dJ9_min_7cf53_10 : decode cJ9_min_7cf53 10 = .ok (.ireturn, 1) := by decide +kernel
theorem dJ9_min_f86c9_0 : decode cJ9_min_f86c9 0 = .ok (.lload_n 0, 1) := by decide +kernel
theorem dJ9_min_f86c9_1 : decode cJ9_min_f86c9 1 = .ok (.lload_n 2, 1) := by decide +kernel
theorem dJ9_min_f86c9_2 : decode cJ9_min_f86c9 2 = .ok (.lcmp, 1) := by decide +kernel
theorem dJ9_min_f86c9_3 : decode cJ9_min_f86c9 3 = .ok (.ifCond .gt 7, 3) := by decide +kernel
theorem dJ9_min_f86c9_6 : decode cJ9_min_f86c9 6 = .ok (.lload_n 0, 1) := by decide +kernel
theorem dJ9_min_f86c9_7 : decode cJ9_min_f86c9 7 = .ok (.goto 4, 3) := by decide +kernel
theorem dJ9_min_f86c9_10 : decode cJ9_min_f86c9 10 = .ok (.lload_n 2, 1) := by decide +kernel
theorem dJ9_min_f86c9_11 : decode cJ9_min_f86c9 11 = .ok (.lreturn, 1) := by decide +kernel
theorem dJ7_fill_d0a16_0 : decode cJ7_fill_d0a16 0 = .ok (.iconst 0, 1) := by decide +kernel
theorem dJ7_fill_d0a16_1 : decode cJ7_fill_d0a16 1 = .ok (.istore_n 3, 1) := by decide +kernel
theorem dJ7_fill_d0a16_2 : decode cJ7_fill_d0a16 2 = .ok (.aload_n 0, 1) := by decide +kernel
theorem dJ7_fill_d0a16_3 : decode cJ7_fill_d0a16 3 = .ok (.arraylength, 1) := by decide +kernel
theorem dJ7_fill_d0a16_4 : decode cJ7_fill_d0a16 4 = .ok (.istore 4, 2) := by decide +kernel
theorem dJ7_fill_d0a16_6 : decode cJ7_fill_d0a16 6 = .ok (.iload_n 3, 1) := by decide +kernel
theorem dJ7_fill_d0a16_7 : decode cJ7_fill_d0a16 7 = .ok (.iload 4, 2) := by decide +kernel
theorem dJ7_fill_d0a16_9 : decode cJ7_fill_d0a16 9 = .ok (.if_icmp .ge 13, 3) := by decide +kernel
theorem dJ7_fill_d0a16_12 : decode cJ7_fill_d0a16 12 = .ok (.aload_n 0, 1) := by decide +kernel
theorem dJ7_fill_d0a16_13 : decode cJ7_fill_d0a16 13 = .ok (.iload_n 3, 1) := by decide +kernel
theorem dJ7_fill_d0a16_14 : decode cJ7_fill_d0a16 14 = .ok (.lload_n 1, 1) := by decide +kernel
theorem dJ7_fill_d0a16_15 : decode cJ7_fill_d0a16 15 = .ok (.lastore, 1) := by decide +kernel
theorem dJ7_fill_d0a16_16 : decode cJ7_fill_d0a16 16 = .ok (.iinc 3 1, 3) := by decide +kernel
theorem dJ7_fill_d0a16_19 : decode cJ7_fill_d0a16 19 = .ok (.goto (-13), 3) := by decide +kernel
theorem dJ7_fill_d0a16_22 : decode cJ7_fill_d0a16 22 = .ok (.return_, 1) := by decide +kernel
theorem dJ7_fill_53178_0 : decode cJ7_fill_53178 0 = .ok (.iconst 0, 1) := by decide +kernel
theorem dJ7_fill_53178_1 : decode cJ7_fill_53178 1 = .ok (.istore_n 2, 1) := by decide +kernel
theorem dJ7_fill_53178_2 : decode cJ7_fill_53178 2 = .ok (.aload_n 0, 1) := by decide +kernel
theorem dJ7_fill_53178_3 : decode cJ7_fill_53178 3 = .ok (.arraylength, 1) := by decide +kernel
theorem dJ7_fill_53178_4 : decode cJ7_fill_53178 4 = .ok (.istore_n 3, 1) := by decide +kernel
theorem dJ7_fill_53178_5 : decode cJ7_fill_53178 5 = .ok (.iload_n 2, 1) := by decide +kernel
theorem dJ7_fill_53178_6 : decode cJ7_fill_53178 6 = .ok (.iload_n 3, 1) := by decide +kernel
theorem dJ7_fill_53178_7 : decode cJ7_fill_53178 7 = .ok (.if_icmp .ge 13, 3) := by decide +kernel
theorem dJ7_fill_53178_10 : decode cJ7_fill_53178 10 = .ok (.aload_n 0, 1) := by decide +kernel
theorem dJ7_fill_53178_11 : decode cJ7_fill_53178 11 = .ok (.iload_n 2, 1) := by decide +kernel
theorem dJ7_fill_53178_12 : decode cJ7_fill_53178 12 = .ok (.iload_n 1, 1) := by decide +kernel
theorem dJ7_fill_53178_13 : decode cJ7_fill_53178 13 = .ok (.iastore, 1) := by decide +kernel
theorem dJ7_fill_53178_14 : decode cJ7_fill_53178 14 = .ok (.iinc 2 1, 3) := by decide +kernel
theorem dJ7_fill_53178_17 : decode cJ7_fill_53178 17 = .ok (.goto (-12), 3) := by decide +kernel
theorem dJ7_fill_53178_20 : decode cJ7_fill_53178 20 = .ok (.return_, 1) := by decide +kernel
theorem dL_word_0 : decode cL_word 0 = .ok (.aload_n 3, 1) := by decide +kernel
theorem dL_word_1 : decode cL_word 1 = .ok (.iconst 0, 1) := by decide +kernel
theorem dL_word_2 : decode cL_word 2 = .ok (.aload_n 0, 1) := by decide +kernel
theorem dL_word_3 : decode cL_word 3 = .ok (.iload_n 1, 1) := by decide +kernel
theorem dL_word_4 : decode cL_word 4 = .ok (.iload_n 2, 1) := by decide +kernel
theorem dL_word_5 : decode cL_word 5 = .ok (.invokevirtual 7, 3) := by decide +kernel
theorem dL_word_8 : decode cL_word 8 = .ok (.i2l, 1) := by decide +kernel
theorem dL_word_9 : decode cL_word 9 = .ok (.lastore, 1) := by decide +kernel
theorem dL_word_10 : decode cL_word 10 = .ok (.goto 7, 3) := by decide +kernel
theorem dL_word_13 : decode cL_word 13 = .ok (.astore 4, 2) := by decide +kernel
theorem dL_word_15 : decode cL_word 15 = .ok (.iconst 1, 1) := by decide +kernel
theorem dL_word_16 : decode cL_word 16 = .ok (.ireturn, 1) := by decide +kernel
theorem dL_word_17 : decode cL_word 17 = .ok (.iconst 0, 1) := by decide +kernel
theorem dL_word_18 : decode cL_word 18 = .ok (.ireturn, 1) := by decide +kernel
theorem dL_known_0 : decode cL_known 0 = .ok (.aload_n 3, 1) := by decide +kernel
theorem dL_known_1 : decode cL_known 1 = .ok (.iconst 0, 1) := by decide +kernel
theorem dL_known_2 : decode cL_known 2 = .ok (.aload_n 0, 1) := by decide +kernel
theorem dL_known_3 : decode cL_known 3 = .ok (.iload_n 1, 1) := by decide +kernel
theorem dL_known_4 : decode cL_known 4 = .ok (.iload_n 2, 1) := by decide +kernel
theorem dL_known_5 : decode cL_known 5 = .ok (.invokevirtual 15, 3) := by decide +kernel
theorem dL_known_8 : decode cL_known 8 = .ok (.i2l, 1) := by decide +kernel
theorem dL_known_9 : decode cL_known 9 = .ok (.lastore, 1) := by decide +kernel
theorem dL_known_10 : decode cL_known 10 = .ok (.goto 7, 3) := by decide +kernel
theorem dL_known_13 : decode cL_known 13 = .ok (.astore 4, 2) := by decide +kernel
theorem dL_known_15 : decode cL_known 15 = .ok (.iconst 1, 1) := by decide +kernel
theorem dL_known_16 : decode cL_known 16 = .ok (.ireturn, 1) := by decide +kernel
theorem dL_known_17 : decode cL_known 17 = .ok (.iconst 0, 1) := by decide +kernel
theorem dL_known_18 : decode cL_known 18 = .ok (.ireturn, 1) := by decide +kernel
theorem dL_law_0 : decode cL_law 0 = .ok (.new 8, 3) := by decide +kernel
theorem dL_law_3 : decode cL_law 3 = .ok (.dup, 1) := by decide +kernel
theorem dL_law_4 : decode cL_law 4 = .ok (.invokespecial 18, 3) := by decide +kernel
theorem dL_law_7 : decode cL_law 7 = .ok (.astore_n 1, 1) := by decide +kernel
theorem dL_law_8 : decode cL_law 8 = .ok (.new 19, 3) := by decide +kernel
theorem dL_law_11 : decode cL_law 11 = .ok (.dup, 1) := by decide +kernel
theorem dL_law_12 : decode cL_law 12 = .ok (.invokespecial 21, 3) := by decide +kernel
theorem dL_law_15 : decode cL_law 15 = .ok (.astore_n 2, 1) := by decide +kernel
theorem dL_law_16 : decode cL_law 16 = .ok (.iconst 1, 1) := by decide +kernel
theorem dL_law_17 : decode cL_law 17 = .ok (.newarray .long, 2) := by decide +kernel
theorem dL_law_19 : decode cL_law 19 = .ok (.astore_n 3, 1) := by decide +kernel
theorem dL_law_20 : decode cL_law 20 = .ok (.iconst 0, 1) := by decide +kernel
theorem dL_law_21 : decode cL_law 21 = .ok (.istore 4, 2) := by decide +kernel
theorem dL_law_23 : decode cL_law 23 = .ok (.iload 4, 2) := by decide +kernel
theorem dL_law_25 : decode cL_law 25 = .ok (.aload_n 0, 1) := by decide +kernel
theorem dL_law_26 : decode cL_law 26 = .ok (.arraylength, 1) := by decide +kernel
theorem dL_law_27 : decode cL_law 27 = .ok (.bipush 6, 2) := by decide +kernel
theorem dL_law_29 : decode cL_law 29 = .ok (.isub, 1) := by decide +kernel
theorem dL_law_30 : decode cL_law 30 = .ok (.if_icmp .gt 1424, 3) := by decide +kernel
theorem dL_law_33 : decode cL_law 33 = .ok (.aload_n 0, 1) := by decide +kernel
theorem dL_law_34 : decode cL_law 34 = .ok (.iload 4, 2) := by decide +kernel
theorem dL_law_36 : decode cL_law 36 = .ok (.iaload, 1) := by decide +kernel
theorem dL_law_37 : decode cL_law 37 = .ok (.bipush 63, 2) := by decide +kernel
theorem dL_law_39 : decode cL_law 39 = .ok (.iand, 1) := by decide +kernel
theorem dL_law_40 : decode cL_law 40 = .ok (.tableswitch 1408 0 41 #[184, 257, 282, 295, 308, 376, 425, 438, 451, 476, 513, 538, 575, 600, 626, 663, 676, 701, 738, 763, 776, 844, 869, 895, 920, 945, 982, 1019, 1044, 1069, 1094, 1119, 1180, 1193, 1231, 1256, 1270, 1283, 1308, 1333, 1358, 1383], 184) := by decide +kernel
theorem dL_law_224 : decode cL_law 224 = .ok (.aload_n 1, 1) := by decide +kernel
theorem dL_law_225 : decode cL_law 225 = .ok (.aload_n 0, 1) := by decide +kernel
theorem dL_law_226 : decode cL_law 226 = .ok (.iload 4, 2) := by decide +kernel
theorem dL_law_228 : decode cL_law 228 = .ok (.iconst 1, 1) := by decide +kernel
theorem dL_law_229 : decode cL_law 229 = .ok (.iadd, 1) := by decide +kernel
theorem dL_law_230 : decode cL_law 230 = .ok (.iaload, 1) := by decide +kernel
theorem dL_law_231 : decode cL_law 231 = .ok (.aload_n 0, 1) := by decide +kernel
theorem dL_law_232 : decode cL_law 232 = .ok (.iload 4, 2) := by decide +kernel
theorem dL_law_234 : decode cL_law 234 = .ok (.iconst 2, 1) := by decide +kernel
theorem dL_law_235 : decode cL_law 235 = .ok (.iadd, 1) := by decide +kernel
theorem dL_law_236 : decode cL_law 236 = .ok (.iaload, 1) := by decide +kernel
theorem dL_law_237 : decode cL_law 237 = .ok (.aload_n 0, 1) := by decide +kernel
theorem dL_law_238 : decode cL_law 238 = .ok (.iload 4, 2) := by decide +kernel
theorem dL_law_240 : decode cL_law 240 = .ok (.iconst 3, 1) := by decide +kernel
theorem dL_law_241 : decode cL_law 241 = .ok (.iadd, 1) := by decide +kernel
theorem dL_law_242 : decode cL_law 242 = .ok (.iaload, 1) := by decide +kernel
theorem dL_law_243 : decode cL_law 243 = .ok (.aload_n 0, 1) := by decide +kernel
theorem dL_law_244 : decode cL_law 244 = .ok (.iload 4, 2) := by decide +kernel
theorem dL_law_246 : decode cL_law 246 = .ok (.iconst 4, 1) := by decide +kernel
theorem dL_law_247 : decode cL_law 247 = .ok (.iadd, 1) := by decide +kernel
theorem dL_law_248 : decode cL_law 248 = .ok (.iaload, 1) := by decide +kernel
theorem dL_law_249 : decode cL_law 249 = .ok (.aload_n 0, 1) := by decide +kernel
theorem dL_law_250 : decode cL_law 250 = .ok (.iload 4, 2) := by decide +kernel
theorem dL_law_252 : decode cL_law 252 = .ok (.iconst 5, 1) := by decide +kernel
theorem dL_law_253 : decode cL_law 253 = .ok (.iadd, 1) := by decide +kernel
theorem dL_law_254 : decode cL_law 254 = .ok (.iaload, 1) := by decide +kernel
theorem dL_law_255 : decode cL_law 255 = .ok (.invokevirtual 22, 3) := by decide +kernel
theorem dL_law_258 : decode cL_law 258 = .ok (.aload_n 2, 1) := by decide +kernel
theorem dL_law_259 : decode cL_law 259 = .ok (.aload_n 0, 1) := by decide +kernel
theorem dL_law_260 : decode cL_law 260 = .ok (.iload 4, 2) := by decide +kernel
theorem dL_law_262 : decode cL_law 262 = .ok (.iconst 1, 1) := by decide +kernel
theorem dL_law_263 : decode cL_law 263 = .ok (.iadd, 1) := by decide +kernel
theorem dL_law_264 : decode cL_law 264 = .ok (.iaload, 1) := by decide +kernel
theorem dL_law_265 : decode cL_law 265 = .ok (.aload_n 0, 1) := by decide +kernel
theorem dL_law_266 : decode cL_law 266 = .ok (.iload 4, 2) := by decide +kernel
theorem dL_law_268 : decode cL_law 268 = .ok (.iconst 2, 1) := by decide +kernel
theorem dL_law_269 : decode cL_law 269 = .ok (.iadd, 1) := by decide +kernel
theorem dL_law_270 : decode cL_law 270 = .ok (.iaload, 1) := by decide +kernel
theorem dL_law_271 : decode cL_law 271 = .ok (.aload_n 0, 1) := by decide +kernel
theorem dL_law_272 : decode cL_law 272 = .ok (.iload 4, 2) := by decide +kernel
theorem dL_law_274 : decode cL_law 274 = .ok (.iconst 3, 1) := by decide +kernel
theorem dL_law_275 : decode cL_law 275 = .ok (.iadd, 1) := by decide +kernel
theorem dL_law_276 : decode cL_law 276 = .ok (.iaload, 1) := by decide +kernel
theorem dL_law_277 : decode cL_law 277 = .ok (.aload_n 0, 1) := by decide +kernel
theorem dL_law_278 : decode cL_law 278 = .ok (.iload 4, 2) := by decide +kernel
theorem dL_law_280 : decode cL_law 280 = .ok (.iconst 4, 1) := by decide +kernel
theorem dL_law_281 : decode cL_law 281 = .ok (.iadd, 1) := by decide +kernel
theorem dL_law_282 : decode cL_law 282 = .ok (.iaload, 1) := by decide +kernel
theorem dL_law_283 : decode cL_law 283 = .ok (.aload_n 0, 1) := by decide +kernel
theorem dL_law_284 : decode cL_law 284 = .ok (.iload 4, 2) := by decide +kernel
theorem dL_law_286 : decode cL_law 286 = .ok (.iconst 5, 1) := by decide +kernel
theorem dL_law_287 : decode cL_law 287 = .ok (.iadd, 1) := by decide +kernel
theorem dL_law_288 : decode cL_law 288 = .ok (.iaload, 1) := by decide +kernel
theorem dL_law_289 : decode cL_law 289 = .ok (.invokevirtual 26, 3) := by decide +kernel
theorem dL_law_292 : decode cL_law 292 = .ok (.if_icmp .eq 1156, 3) := by decide +kernel
theorem dL_law_295 : decode cL_law 295 = .ok (.iconst 0, 1) := by decide +kernel
theorem dL_law_296 : decode cL_law 296 = .ok (.ireturn, 1) := by decide +kernel
theorem dL_law_297 : decode cL_law 297 = .ok (.aload_n 1, 1) := by decide +kernel
theorem dL_law_298 : decode cL_law 298 = .ok (.aload_n 0, 1) := by decide +kernel
theorem dL_law_299 : decode cL_law 299 = .ok (.iload 4, 2) := by decide +kernel
theorem dL_law_301 : decode cL_law 301 = .ok (.iconst 1, 1) := by decide +kernel
theorem dL_law_302 : decode cL_law 302 = .ok (.iadd, 1) := by decide +kernel
theorem dL_law_303 : decode cL_law 303 = .ok (.iaload, 1) := by decide +kernel
theorem dL_law_304 : decode cL_law 304 = .ok (.invokevirtual 27, 3) := by decide +kernel
theorem dL_law_307 : decode cL_law 307 = .ok (.aload_n 2, 1) := by decide +kernel
theorem dL_law_308 : decode cL_law 308 = .ok (.aload_n 0, 1) := by decide +kernel
theorem dL_law_309 : decode cL_law 309 = .ok (.iload 4, 2) := by decide +kernel
theorem dL_law_311 : decode cL_law 311 = .ok (.iconst 1, 1) := by decide +kernel
theorem dL_law_312 : decode cL_law 312 = .ok (.iadd, 1) := by decide +kernel
theorem dL_law_313 : decode cL_law 313 = .ok (.iaload, 1) := by decide +kernel
theorem dL_law_314 : decode cL_law 314 = .ok (.invokevirtual 31, 3) := by decide +kernel
theorem dL_law_317 : decode cL_law 317 = .ok (.if_icmp .eq 1131, 3) := by decide +kernel
theorem dL_law_320 : decode cL_law 320 = .ok (.iconst 0, 1) := by decide +kernel
theorem dL_law_321 : decode cL_law 321 = .ok (.ireturn, 1) := by decide +kernel
theorem dL_law_322 : decode cL_law 322 = .ok (.aload_n 1, 1) := by decide +kernel
theorem dL_law_323 : decode cL_law 323 = .ok (.invokevirtual 32, 3) := by decide +kernel
theorem dL_law_326 : decode cL_law 326 = .ok (.aload_n 2, 1) := by decide +kernel
theorem dL_law_327 : decode cL_law 327 = .ok (.invokevirtual 36, 3) := by decide +kernel
theorem dL_law_330 : decode cL_law 330 = .ok (.if_icmp .eq 1118, 3) := by decide +kernel
theorem dL_law_333 : decode cL_law 333 = .ok (.iconst 0, 1) := by decide +kernel
theorem dL_law_334 : decode cL_law 334 = .ok (.ireturn, 1) := by decide +kernel
theorem dL_law_335 : decode cL_law 335 = .ok (.aload_n 1, 1) := by decide +kernel
theorem dL_law_336 : decode cL_law 336 = .ok (.invokevirtual 37, 3) := by decide +kernel
theorem dL_law_339 : decode cL_law 339 = .ok (.aload_n 2, 1) := by decide +kernel
theorem dL_law_340 : decode cL_law 340 = .ok (.invokevirtual 40, 3) := by decide +kernel
theorem dL_law_343 : decode cL_law 343 = .ok (.if_icmp .eq 1105, 3) := by decide +kernel
theorem dL_law_346 : decode cL_law 346 = .ok (.iconst 0, 1) := by decide +kernel
theorem dL_law_347 : decode cL_law 347 = .ok (.ireturn, 1) := by decide +kernel
theorem dL_law_348 : decode cL_law 348 = .ok (.aload_n 1, 1) := by decide +kernel
theorem dL_law_349 : decode cL_law 349 = .ok (.aload_n 0, 1) := by decide +kernel
theorem dL_law_350 : decode cL_law 350 = .ok (.iload 4, 2) := by decide +kernel
theorem dL_law_352 : decode cL_law 352 = .ok (.iconst 1, 1) := by decide +kernel
theorem dL_law_353 : decode cL_law 353 = .ok (.iadd, 1) := by decide +kernel
theorem dL_law_354 : decode cL_law 354 = .ok (.iaload, 1) := by decide +kernel
theorem dL_law_355 : decode cL_law 355 = .ok (.aload_n 0, 1) := by decide +kernel
theorem dL_law_356 : decode cL_law 356 = .ok (.iload 4, 2) := by decide +kernel
theorem dL_law_358 : decode cL_law 358 = .ok (.iconst 2, 1) := by decide +kernel
theorem dL_law_359 : decode cL_law 359 = .ok (.iadd, 1) := by decide +kernel
theorem dL_law_360 : decode cL_law 360 = .ok (.iaload, 1) := by decide +kernel
theorem dL_law_361 : decode cL_law 361 = .ok (.aload_n 3, 1) := by decide +kernel
theorem dL_law_362 : decode cL_law 362 = .ok (.invokestatic 41, 3) := by decide +kernel
theorem dL_law_365 : decode cL_law 365 = .ok (.istore 5, 2) := by decide +kernel
theorem dL_law_367 : decode cL_law 367 = .ok (.aload_n 2, 1) := by decide +kernel
theorem dL_law_368 : decode cL_law 368 = .ok (.aload_n 0, 1) := by decide +kernel
theorem dL_law_369 : decode cL_law 369 = .ok (.iload 4, 2) := by decide +kernel
theorem dL_law_371 : decode cL_law 371 = .ok (.iconst 1, 1) := by decide +kernel
theorem dL_law_372 : decode cL_law 372 = .ok (.iadd, 1) := by decide +kernel
theorem dL_law_373 : decode cL_law 373 = .ok (.iaload, 1) := by decide +kernel
theorem dL_law_374 : decode cL_law 374 = .ok (.aload_n 0, 1) := by decide +kernel
theorem dL_law_375 : decode cL_law 375 = .ok (.iload 4, 2) := by decide +kernel
theorem dL_law_377 : decode cL_law 377 = .ok (.iconst 2, 1) := by decide +kernel
theorem dL_law_378 : decode cL_law 378 = .ok (.iadd, 1) := by decide +kernel
theorem dL_law_379 : decode cL_law 379 = .ok (.iaload, 1) := by decide +kernel
theorem dL_law_380 : decode cL_law 380 = .ok (.invokevirtual 46, 3) := by decide +kernel
theorem dL_law_383 : decode cL_law 383 = .ok (.istore 6, 2) := by decide +kernel
theorem dL_law_385 : decode cL_law 385 = .ok (.aload_n 2, 1) := by decide +kernel
theorem dL_law_386 : decode cL_law 386 = .ok (.invokevirtual 47, 3) := by decide +kernel
theorem dL_law_389 : decode cL_law 389 = .ok (.iload 5, 2) := by decide +kernel
theorem dL_law_391 : decode cL_law 391 = .ok (.if_icmp .eq 5, 3) := by decide +kernel
theorem dL_law_394 : decode cL_law 394 = .ok (.iconst 0, 1) := by decide +kernel
theorem dL_law_395 : decode cL_law 395 = .ok (.ireturn, 1) := by decide +kernel
theorem dL_law_396 : decode cL_law 396 = .ok (.iload 5, 2) := by decide +kernel
theorem dL_law_398 : decode cL_law 398 = .ok (.ifCond .ne 15, 3) := by decide +kernel
theorem dL_law_401 : decode cL_law 401 = .ok (.aload_n 3, 1) := by decide +kernel
theorem dL_law_402 : decode cL_law 402 = .ok (.iconst 0, 1) := by decide +kernel
theorem dL_law_403 : decode cL_law 403 = .ok (.laload, 1) := by decide +kernel
theorem dL_law_404 : decode cL_law 404 = .ok (.iload 6, 2) := by decide +kernel
theorem dL_law_406 : decode cL_law 406 = .ok (.i2l, 1) := by decide +kernel
theorem dL_law_407 : decode cL_law 407 = .ok (.lcmp, 1) := by decide +kernel
theorem dL_law_408 : decode cL_law 408 = .ok (.ifCond .eq 5, 3) := by decide +kernel
theorem dL_law_411 : decode cL_law 411 = .ok (.iconst 0, 1) := by decide +kernel
theorem dL_law_412 : decode cL_law 412 = .ok (.ireturn, 1) := by decide +kernel
theorem dL_law_413 : decode cL_law 413 = .ok (.goto 1035, 3) := by decide +kernel
theorem dL_law_416 : decode cL_law 416 = .ok (.aload_n 1, 1) := by decide +kernel
theorem dL_law_417 : decode cL_law 417 = .ok (.aload_n 0, 1) := by decide +kernel
theorem dL_law_418 : decode cL_law 418 = .ok (.iload 4, 2) := by decide +kernel
theorem dL_law_420 : decode cL_law 420 = .ok (.iconst 1, 1) := by decide +kernel
theorem dL_law_421 : decode cL_law 421 = .ok (.iadd, 1) := by decide +kernel
theorem dL_law_422 : decode cL_law 422 = .ok (.iaload, 1) := by decide +kernel
theorem dL_law_423 : decode cL_law 423 = .ok (.aload_n 0, 1) := by decide +kernel
theorem dL_law_424 : decode cL_law 424 = .ok (.iload 4, 2) := by decide +kernel
theorem dL_law_426 : decode cL_law 426 = .ok (.iconst 2, 1) := by decide +kernel
theorem dL_law_427 : decode cL_law 427 = .ok (.iadd, 1) := by decide +kernel
theorem dL_law_428 : decode cL_law 428 = .ok (.iaload, 1) := by decide +kernel
theorem dL_law_429 : decode cL_law 429 = .ok (.aload_n 0, 1) := by decide +kernel
theorem dL_law_430 : decode cL_law 430 = .ok (.iload 4, 2) := by decide +kernel
theorem dL_law_432 : decode cL_law 432 = .ok (.iconst 3, 1) := by decide +kernel
theorem dL_law_433 : decode cL_law 433 = .ok (.iadd, 1) := by decide +kernel
theorem dL_law_434 : decode cL_law 434 = .ok (.iaload, 1) := by decide +kernel
theorem dL_law_435 : decode cL_law 435 = .ok (.invokevirtual 50, 3) := by decide +kernel
theorem dL_law_438 : decode cL_law 438 = .ok (.aload_n 2, 1) := by decide +kernel
theorem dL_law_439 : decode cL_law 439 = .ok (.aload_n 0, 1) := by decide +kernel
theorem dL_law_440 : decode cL_law 440 = .ok (.iload 4, 2) := by decide +kernel
theorem dL_law_442 : decode cL_law 442 = .ok (.iconst 1, 1) := by decide +kernel
theorem dL_law_443 : decode cL_law 443 = .ok (.iadd, 1) := by decide +kernel
theorem dL_law_444 : decode cL_law 444 = .ok (.iaload, 1) := by decide +kernel
theorem dL_law_445 : decode cL_law 445 = .ok (.aload_n 0, 1) := by decide +kernel
theorem dL_law_446 : decode cL_law 446 = .ok (.iload 4, 2) := by decide +kernel
theorem dL_law_448 : decode cL_law 448 = .ok (.iconst 2, 1) := by decide +kernel
theorem dL_law_449 : decode cL_law 449 = .ok (.iadd, 1) := by decide +kernel
theorem dL_law_450 : decode cL_law 450 = .ok (.iaload, 1) := by decide +kernel
theorem dL_law_451 : decode cL_law 451 = .ok (.aload_n 0, 1) := by decide +kernel
theorem dL_law_452 : decode cL_law 452 = .ok (.iload 4, 2) := by decide +kernel
theorem dL_law_454 : decode cL_law 454 = .ok (.iconst 3, 1) := by decide +kernel
theorem dL_law_455 : decode cL_law 455 = .ok (.iadd, 1) := by decide +kernel
theorem dL_law_456 : decode cL_law 456 = .ok (.iaload, 1) := by decide +kernel
theorem dL_law_457 : decode cL_law 457 = .ok (.invokevirtual 54, 3) := by decide +kernel
theorem dL_law_460 : decode cL_law 460 = .ok (.if_icmp .eq 988, 3) := by decide +kernel
theorem dL_law_463 : decode cL_law 463 = .ok (.iconst 0, 1) := by decide +kernel
theorem dL_law_464 : decode cL_law 464 = .ok (.ireturn, 1) := by decide +kernel
theorem dL_law_465 : decode cL_law 465 = .ok (.aload_n 1, 1) := by decide +kernel
theorem dL_law_466 : decode cL_law 466 = .ok (.invokevirtual 55, 3) := by decide +kernel
theorem dL_law_469 : decode cL_law 469 = .ok (.aload_n 2, 1) := by decide +kernel
theorem dL_law_470 : decode cL_law 470 = .ok (.invokevirtual 58, 3) := by decide +kernel
theorem dL_law_473 : decode cL_law 473 = .ok (.if_icmp .eq 975, 3) := by decide +kernel
theorem dL_law_476 : decode cL_law 476 = .ok (.iconst 0, 1) := by decide +kernel
theorem dL_law_477 : decode cL_law 477 = .ok (.ireturn, 1) := by decide +kernel
theorem dL_law_478 : decode cL_law 478 = .ok (.aload_n 1, 1) := by decide +kernel
theorem dL_law_479 : decode cL_law 479 = .ok (.invokevirtual 59, 3) := by decide +kernel
theorem dL_law_482 : decode cL_law 482 = .ok (.aload_n 2, 1) := by decide +kernel
theorem dL_law_483 : decode cL_law 483 = .ok (.invokevirtual 62, 3) := by decide +kernel
theorem dL_law_486 : decode cL_law 486 = .ok (.if_icmp .eq 962, 3) := by decide +kernel
theorem dL_law_489 : decode cL_law 489 = .ok (.iconst 0, 1) := by decide +kernel
theorem dL_law_490 : decode cL_law 490 = .ok (.ireturn, 1) := by decide +kernel
theorem dL_law_491 : decode cL_law 491 = .ok (.aload_n 1, 1) := by decide +kernel
theorem dL_law_492 : decode cL_law 492 = .ok (.aload_n 0, 1) := by decide +kernel
theorem dL_law_493 : decode cL_law 493 = .ok (.iload 4, 2) := by decide +kernel
theorem dL_law_495 : decode cL_law 495 = .ok (.iconst 1, 1) := by decide +kernel
theorem dL_law_496 : decode cL_law 496 = .ok (.iadd, 1) := by decide +kernel
theorem dL_law_497 : decode cL_law 497 = .ok (.iaload, 1) := by decide +kernel
theorem dL_law_498 : decode cL_law 498 = .ok (.invokevirtual 63, 3) := by decide +kernel
theorem dL_law_501 : decode cL_law 501 = .ok (.aload_n 2, 1) := by decide +kernel
theorem dL_law_502 : decode cL_law 502 = .ok (.aload_n 0, 1) := by decide +kernel
theorem dL_law_503 : decode cL_law 503 = .ok (.iload 4, 2) := by decide +kernel
theorem dL_law_505 : decode cL_law 505 = .ok (.iconst 1, 1) := by decide +kernel
theorem dL_law_506 : decode cL_law 506 = .ok (.iadd, 1) := by decide +kernel
theorem dL_law_507 : decode cL_law 507 = .ok (.iaload, 1) := by decide +kernel
theorem dL_law_508 : decode cL_law 508 = .ok (.invokevirtual 67, 3) := by decide +kernel
theorem dL_law_511 : decode cL_law 511 = .ok (.if_icmp .eq 937, 3) := by decide +kernel
theorem dL_law_514 : decode cL_law 514 = .ok (.iconst 0, 1) := by decide +kernel
theorem dL_law_515 : decode cL_law 515 = .ok (.ireturn, 1) := by decide +kernel
theorem dL_law_516 : decode cL_law 516 = .ok (.aload_n 1, 1) := by decide +kernel
theorem dL_law_517 : decode cL_law 517 = .ok (.aload_n 0, 1) := by decide +kernel
theorem dL_law_518 : decode cL_law 518 = .ok (.iload 4, 2) := by decide +kernel
theorem dL_law_520 : decode cL_law 520 = .ok (.iconst 1, 1) := by decide +kernel
theorem dL_law_521 : decode cL_law 521 = .ok (.iadd, 1) := by decide +kernel
theorem dL_law_522 : decode cL_law 522 = .ok (.iaload, 1) := by decide +kernel
theorem dL_law_523 : decode cL_law 523 = .ok (.aload_n 0, 1) := by decide +kernel
theorem dL_law_524 : decode cL_law 524 = .ok (.iload 4, 2) := by decide +kernel
theorem dL_law_526 : decode cL_law 526 = .ok (.iconst 2, 1) := by decide +kernel
theorem dL_law_527 : decode cL_law 527 = .ok (.iadd, 1) := by decide +kernel
theorem dL_law_528 : decode cL_law 528 = .ok (.iaload, 1) := by decide +kernel
theorem dL_law_529 : decode cL_law 529 = .ok (.invokevirtual 68, 3) := by decide +kernel
theorem dL_law_532 : decode cL_law 532 = .ok (.aload_n 2, 1) := by decide +kernel
theorem dL_law_533 : decode cL_law 533 = .ok (.aload_n 0, 1) := by decide +kernel
theorem dL_law_534 : decode cL_law 534 = .ok (.iload 4, 2) := by decide +kernel
theorem dL_law_536 : decode cL_law 536 = .ok (.iconst 1, 1) := by decide +kernel
theorem dL_law_537 : decode cL_law 537 = .ok (.iadd, 1) := by decide +kernel
theorem dL_law_538 : decode cL_law 538 = .ok (.iaload, 1) := by decide +kernel
theorem dL_law_539 : decode cL_law 539 = .ok (.aload_n 0, 1) := by decide +kernel
theorem dL_law_540 : decode cL_law 540 = .ok (.iload 4, 2) := by decide +kernel
theorem dL_law_542 : decode cL_law 542 = .ok (.iconst 2, 1) := by decide +kernel
theorem dL_law_543 : decode cL_law 543 = .ok (.iadd, 1) := by decide +kernel
theorem dL_law_544 : decode cL_law 544 = .ok (.iaload, 1) := by decide +kernel
theorem dL_law_545 : decode cL_law 545 = .ok (.invokevirtual 71, 3) := by decide +kernel
theorem dL_law_548 : decode cL_law 548 = .ok (.if_icmp .eq 900, 3) := by decide +kernel
theorem dL_law_551 : decode cL_law 551 = .ok (.iconst 0, 1) := by decide +kernel
theorem dL_law_552 : decode cL_law 552 = .ok (.ireturn, 1) := by decide +kernel
theorem dL_law_553 : decode cL_law 553 = .ok (.aload_n 1, 1) := by decide +kernel
theorem dL_law_554 : decode cL_law 554 = .ok (.aload_n 0, 1) := by decide +kernel
theorem dL_law_555 : decode cL_law 555 = .ok (.iload 4, 2) := by decide +kernel
theorem dL_law_557 : decode cL_law 557 = .ok (.iconst 1, 1) := by decide +kernel
theorem dL_law_558 : decode cL_law 558 = .ok (.iadd, 1) := by decide +kernel
theorem dL_law_559 : decode cL_law 559 = .ok (.iaload, 1) := by decide +kernel
theorem dL_law_560 : decode cL_law 560 = .ok (.invokevirtual 72, 3) := by decide +kernel
theorem dL_law_563 : decode cL_law 563 = .ok (.aload_n 2, 1) := by decide +kernel
theorem dL_law_564 : decode cL_law 564 = .ok (.aload_n 0, 1) := by decide +kernel
theorem dL_law_565 : decode cL_law 565 = .ok (.iload 4, 2) := by decide +kernel
theorem dL_law_567 : decode cL_law 567 = .ok (.iconst 1, 1) := by decide +kernel
theorem dL_law_568 : decode cL_law 568 = .ok (.iadd, 1) := by decide +kernel
theorem dL_law_569 : decode cL_law 569 = .ok (.iaload, 1) := by decide +kernel
theorem dL_law_570 : decode cL_law 570 = .ok (.invokevirtual 75, 3) := by decide +kernel
theorem dL_law_573 : decode cL_law 573 = .ok (.if_icmp .eq 875, 3) := by decide +kernel
theorem dL_law_576 : decode cL_law 576 = .ok (.iconst 0, 1) := by decide +kernel
theorem dL_law_577 : decode cL_law 577 = .ok (.ireturn, 1) := by decide +kernel
theorem dL_law_578 : decode cL_law 578 = .ok (.aload_n 1, 1) := by decide +kernel
theorem dL_law_579 : decode cL_law 579 = .ok (.aload_n 0, 1) := by decide +kernel
theorem dL_law_580 : decode cL_law 580 = .ok (.iload 4, 2) := by decide +kernel
theorem dL_law_582 : decode cL_law 582 = .ok (.iconst 1, 1) := by decide +kernel
theorem dL_law_583 : decode cL_law 583 = .ok (.iadd, 1) := by decide +kernel
theorem dL_law_584 : decode cL_law 584 = .ok (.iaload, 1) := by decide +kernel
theorem dL_law_585 : decode cL_law 585 = .ok (.aload_n 0, 1) := by decide +kernel
theorem dL_law_586 : decode cL_law 586 = .ok (.iload 4, 2) := by decide +kernel
theorem dL_law_588 : decode cL_law 588 = .ok (.iconst 2, 1) := by decide +kernel
theorem dL_law_589 : decode cL_law 589 = .ok (.iadd, 1) := by decide +kernel
theorem dL_law_590 : decode cL_law 590 = .ok (.iaload, 1) := by decide +kernel
theorem dL_law_591 : decode cL_law 591 = .ok (.invokevirtual 76, 3) := by decide +kernel
theorem dL_law_594 : decode cL_law 594 = .ok (.aload_n 2, 1) := by decide +kernel
theorem dL_law_595 : decode cL_law 595 = .ok (.aload_n 0, 1) := by decide +kernel
theorem dL_law_596 : decode cL_law 596 = .ok (.iload 4, 2) := by decide +kernel
theorem dL_law_598 : decode cL_law 598 = .ok (.iconst 1, 1) := by decide +kernel
theorem dL_law_599 : decode cL_law 599 = .ok (.iadd, 1) := by decide +kernel
theorem dL_law_600 : decode cL_law 600 = .ok (.iaload, 1) := by decide +kernel
theorem dL_law_601 : decode cL_law 601 = .ok (.aload_n 0, 1) := by decide +kernel
theorem dL_law_602 : decode cL_law 602 = .ok (.iload 4, 2) := by decide +kernel
theorem dL_law_604 : decode cL_law 604 = .ok (.iconst 2, 1) := by decide +kernel
theorem dL_law_605 : decode cL_law 605 = .ok (.iadd, 1) := by decide +kernel
theorem dL_law_606 : decode cL_law 606 = .ok (.iaload, 1) := by decide +kernel
theorem dL_law_607 : decode cL_law 607 = .ok (.invokevirtual 79, 3) := by decide +kernel
theorem dL_law_610 : decode cL_law 610 = .ok (.if_icmp .eq 838, 3) := by decide +kernel
theorem dL_law_613 : decode cL_law 613 = .ok (.iconst 0, 1) := by decide +kernel
theorem dL_law_614 : decode cL_law 614 = .ok (.ireturn, 1) := by decide +kernel
theorem dL_law_615 : decode cL_law 615 = .ok (.aload_n 1, 1) := by decide +kernel
theorem dL_law_616 : decode cL_law 616 = .ok (.aload_n 0, 1) := by decide +kernel
theorem dL_law_617 : decode cL_law 617 = .ok (.iload 4, 2) := by decide +kernel
theorem dL_law_619 : decode cL_law 619 = .ok (.iconst 1, 1) := by decide +kernel
theorem dL_law_620 : decode cL_law 620 = .ok (.iadd, 1) := by decide +kernel
theorem dL_law_621 : decode cL_law 621 = .ok (.iaload, 1) := by decide +kernel
theorem dL_law_622 : decode cL_law 622 = .ok (.invokevirtual 80, 3) := by decide +kernel
theorem dL_law_625 : decode cL_law 625 = .ok (.aload_n 2, 1) := by decide +kernel
theorem dL_law_626 : decode cL_law 626 = .ok (.aload_n 0, 1) := by decide +kernel
theorem dL_law_627 : decode cL_law 627 = .ok (.iload 4, 2) := by decide +kernel
theorem dL_law_629 : decode cL_law 629 = .ok (.iconst 1, 1) := by decide +kernel
theorem dL_law_630 : decode cL_law 630 = .ok (.iadd, 1) := by decide +kernel
theorem dL_law_631 : decode cL_law 631 = .ok (.iaload, 1) := by decide +kernel
theorem dL_law_632 : decode cL_law 632 = .ok (.invokevirtual 83, 3) := by decide +kernel
theorem dL_law_635 : decode cL_law 635 = .ok (.if_icmp .eq 813, 3) := by decide +kernel
theorem dL_law_638 : decode cL_law 638 = .ok (.iconst 0, 1) := by decide +kernel
theorem dL_law_639 : decode cL_law 639 = .ok (.ireturn, 1) := by decide +kernel
theorem dL_law_640 : decode cL_law 640 = .ok (.aload_n 1, 1) := by decide +kernel
theorem dL_law_641 : decode cL_law 641 = .ok (.aload_n 0, 1) := by decide +kernel
theorem dL_law_642 : decode cL_law 642 = .ok (.iload 4, 2) := by decide +kernel
theorem dL_law_644 : decode cL_law 644 = .ok (.iconst 1, 1) := by decide +kernel
theorem dL_law_645 : decode cL_law 645 = .ok (.iadd, 1) := by decide +kernel
theorem dL_law_646 : decode cL_law 646 = .ok (.iaload, 1) := by decide +kernel
theorem dL_law_647 : decode cL_law 647 = .ok (.invokevirtual 84, 3) := by decide +kernel
theorem dL_law_650 : decode cL_law 650 = .ok (.aload_n 2, 1) := by decide +kernel
theorem dL_law_651 : decode cL_law 651 = .ok (.aload_n 0, 1) := by decide +kernel
theorem dL_law_652 : decode cL_law 652 = .ok (.iload 4, 2) := by decide +kernel
theorem dL_law_654 : decode cL_law 654 = .ok (.iconst 1, 1) := by decide +kernel
theorem dL_law_655 : decode cL_law 655 = .ok (.iadd, 1) := by decide +kernel
theorem dL_law_656 : decode cL_law 656 = .ok (.iaload, 1) := by decide +kernel
theorem dL_law_657 : decode cL_law 657 = .ok (.invokevirtual 88, 3) := by decide +kernel
theorem dL_law_660 : decode cL_law 660 = .ok (.lcmp, 1) := by decide +kernel
theorem dL_law_661 : decode cL_law 661 = .ok (.ifCond .eq 787, 3) := by decide +kernel
theorem dL_law_664 : decode cL_law 664 = .ok (.iconst 0, 1) := by decide +kernel
theorem dL_law_665 : decode cL_law 665 = .ok (.ireturn, 1) := by decide +kernel
theorem dL_law_666 : decode cL_law 666 = .ok (.aload_n 1, 1) := by decide +kernel
theorem dL_law_667 : decode cL_law 667 = .ok (.aload_n 0, 1) := by decide +kernel
theorem dL_law_668 : decode cL_law 668 = .ok (.iload 4, 2) := by decide +kernel
theorem dL_law_670 : decode cL_law 670 = .ok (.iconst 1, 1) := by decide +kernel
theorem dL_law_671 : decode cL_law 671 = .ok (.iadd, 1) := by decide +kernel
theorem dL_law_672 : decode cL_law 672 = .ok (.iaload, 1) := by decide +kernel
theorem dL_law_673 : decode cL_law 673 = .ok (.aload_n 0, 1) := by decide +kernel
theorem dL_law_674 : decode cL_law 674 = .ok (.iload 4, 2) := by decide +kernel
theorem dL_law_676 : decode cL_law 676 = .ok (.iconst 2, 1) := by decide +kernel
theorem dL_law_677 : decode cL_law 677 = .ok (.iadd, 1) := by decide +kernel
theorem dL_law_678 : decode cL_law 678 = .ok (.iaload, 1) := by decide +kernel
theorem dL_law_679 : decode cL_law 679 = .ok (.invokevirtual 89, 3) := by decide +kernel
theorem dL_law_682 : decode cL_law 682 = .ok (.aload_n 2, 1) := by decide +kernel
theorem dL_law_683 : decode cL_law 683 = .ok (.aload_n 0, 1) := by decide +kernel
theorem dL_law_684 : decode cL_law 684 = .ok (.iload 4, 2) := by decide +kernel
theorem dL_law_686 : decode cL_law 686 = .ok (.iconst 1, 1) := by decide +kernel
theorem dL_law_687 : decode cL_law 687 = .ok (.iadd, 1) := by decide +kernel
theorem dL_law_688 : decode cL_law 688 = .ok (.iaload, 1) := by decide +kernel
theorem dL_law_689 : decode cL_law 689 = .ok (.aload_n 0, 1) := by decide +kernel
theorem dL_law_690 : decode cL_law 690 = .ok (.iload 4, 2) := by decide +kernel
theorem dL_law_692 : decode cL_law 692 = .ok (.iconst 2, 1) := by decide +kernel
theorem dL_law_693 : decode cL_law 693 = .ok (.iadd, 1) := by decide +kernel
theorem dL_law_694 : decode cL_law 694 = .ok (.iaload, 1) := by decide +kernel
theorem dL_law_695 : decode cL_law 695 = .ok (.invokevirtual 92, 3) := by decide +kernel
theorem dL_law_698 : decode cL_law 698 = .ok (.if_icmp .eq 750, 3) := by decide +kernel
theorem dL_law_701 : decode cL_law 701 = .ok (.iconst 0, 1) := by decide +kernel
theorem dL_law_702 : decode cL_law 702 = .ok (.ireturn, 1) := by decide +kernel
theorem dL_law_703 : decode cL_law 703 = .ok (.aload_n 1, 1) := by decide +kernel
theorem dL_law_704 : decode cL_law 704 = .ok (.invokevirtual 93, 3) := by decide +kernel
theorem dL_law_707 : decode cL_law 707 = .ok (.aload_n 2, 1) := by decide +kernel
theorem dL_law_708 : decode cL_law 708 = .ok (.invokevirtual 96, 3) := by decide +kernel
theorem dL_law_711 : decode cL_law 711 = .ok (.if_icmp .eq 737, 3) := by decide +kernel
theorem dL_law_714 : decode cL_law 714 = .ok (.iconst 0, 1) := by decide +kernel
theorem dL_law_715 : decode cL_law 715 = .ok (.ireturn, 1) := by decide +kernel
theorem dL_law_716 : decode cL_law 716 = .ok (.aload_n 1, 1) := by decide +kernel
theorem dL_law_717 : decode cL_law 717 = .ok (.aload_n 0, 1) := by decide +kernel
theorem dL_law_718 : decode cL_law 718 = .ok (.iload 4, 2) := by decide +kernel
theorem dL_law_720 : decode cL_law 720 = .ok (.iconst 1, 1) := by decide +kernel
theorem dL_law_721 : decode cL_law 721 = .ok (.iadd, 1) := by decide +kernel
theorem dL_law_722 : decode cL_law 722 = .ok (.iaload, 1) := by decide +kernel
theorem dL_law_723 : decode cL_law 723 = .ok (.invokevirtual 97, 3) := by decide +kernel
theorem dL_law_726 : decode cL_law 726 = .ok (.aload_n 2, 1) := by decide +kernel
theorem dL_law_727 : decode cL_law 727 = .ok (.aload_n 0, 1) := by decide +kernel
theorem dL_law_728 : decode cL_law 728 = .ok (.iload 4, 2) := by decide +kernel
theorem dL_law_730 : decode cL_law 730 = .ok (.iconst 1, 1) := by decide +kernel
theorem dL_law_731 : decode cL_law 731 = .ok (.iadd, 1) := by decide +kernel
theorem dL_law_732 : decode cL_law 732 = .ok (.iaload, 1) := by decide +kernel
theorem dL_law_733 : decode cL_law 733 = .ok (.invokevirtual 100, 3) := by decide +kernel
theorem dL_law_736 : decode cL_law 736 = .ok (.if_icmp .eq 712, 3) := by decide +kernel
theorem dL_law_739 : decode cL_law 739 = .ok (.iconst 0, 1) := by decide +kernel
theorem dL_law_740 : decode cL_law 740 = .ok (.ireturn, 1) := by decide +kernel
theorem dL_law_741 : decode cL_law 741 = .ok (.aload_n 1, 1) := by decide +kernel
theorem dL_law_742 : decode cL_law 742 = .ok (.aload_n 0, 1) := by decide +kernel
theorem dL_law_743 : decode cL_law 743 = .ok (.iload 4, 2) := by decide +kernel
theorem dL_law_745 : decode cL_law 745 = .ok (.iconst 1, 1) := by decide +kernel
theorem dL_law_746 : decode cL_law 746 = .ok (.iadd, 1) := by decide +kernel
theorem dL_law_747 : decode cL_law 747 = .ok (.iaload, 1) := by decide +kernel
theorem dL_law_748 : decode cL_law 748 = .ok (.aload_n 0, 1) := by decide +kernel
theorem dL_law_749 : decode cL_law 749 = .ok (.iload 4, 2) := by decide +kernel
theorem dL_law_751 : decode cL_law 751 = .ok (.iconst 2, 1) := by decide +kernel
theorem dL_law_752 : decode cL_law 752 = .ok (.iadd, 1) := by decide +kernel
theorem dL_law_753 : decode cL_law 753 = .ok (.iaload, 1) := by decide +kernel
theorem dL_law_754 : decode cL_law 754 = .ok (.invokevirtual 101, 3) := by decide +kernel
theorem dL_law_757 : decode cL_law 757 = .ok (.aload_n 2, 1) := by decide +kernel
theorem dL_law_758 : decode cL_law 758 = .ok (.aload_n 0, 1) := by decide +kernel
theorem dL_law_759 : decode cL_law 759 = .ok (.iload 4, 2) := by decide +kernel
theorem dL_law_761 : decode cL_law 761 = .ok (.iconst 1, 1) := by decide +kernel
theorem dL_law_762 : decode cL_law 762 = .ok (.iadd, 1) := by decide +kernel
theorem dL_law_763 : decode cL_law 763 = .ok (.iaload, 1) := by decide +kernel
theorem dL_law_764 : decode cL_law 764 = .ok (.aload_n 0, 1) := by decide +kernel
theorem dL_law_765 : decode cL_law 765 = .ok (.iload 4, 2) := by decide +kernel
theorem dL_law_767 : decode cL_law 767 = .ok (.iconst 2, 1) := by decide +kernel
theorem dL_law_768 : decode cL_law 768 = .ok (.iadd, 1) := by decide +kernel
theorem dL_law_769 : decode cL_law 769 = .ok (.iaload, 1) := by decide +kernel
theorem dL_law_770 : decode cL_law 770 = .ok (.invokevirtual 104, 3) := by decide +kernel
theorem dL_law_773 : decode cL_law 773 = .ok (.if_icmp .eq 675, 3) := by decide +kernel
theorem dL_law_776 : decode cL_law 776 = .ok (.iconst 0, 1) := by decide +kernel
theorem dL_law_777 : decode cL_law 777 = .ok (.ireturn, 1) := by decide +kernel
theorem dL_law_778 : decode cL_law 778 = .ok (.aload_n 1, 1) := by decide +kernel
theorem dL_law_779 : decode cL_law 779 = .ok (.aload_n 0, 1) := by decide +kernel
theorem dL_law_780 : decode cL_law 780 = .ok (.iload 4, 2) := by decide +kernel
theorem dL_law_782 : decode cL_law 782 = .ok (.iconst 1, 1) := by decide +kernel
theorem dL_law_783 : decode cL_law 783 = .ok (.iadd, 1) := by decide +kernel
theorem dL_law_784 : decode cL_law 784 = .ok (.iaload, 1) := by decide +kernel
theorem dL_law_785 : decode cL_law 785 = .ok (.invokevirtual 105, 3) := by decide +kernel
theorem dL_law_788 : decode cL_law 788 = .ok (.aload_n 2, 1) := by decide +kernel
theorem dL_law_789 : decode cL_law 789 = .ok (.aload_n 0, 1) := by decide +kernel
theorem dL_law_790 : decode cL_law 790 = .ok (.iload 4, 2) := by decide +kernel
theorem dL_law_792 : decode cL_law 792 = .ok (.iconst 1, 1) := by decide +kernel
theorem dL_law_793 : decode cL_law 793 = .ok (.iadd, 1) := by decide +kernel
theorem dL_law_794 : decode cL_law 794 = .ok (.iaload, 1) := by decide +kernel
theorem dL_law_795 : decode cL_law 795 = .ok (.invokevirtual 108, 3) := by decide +kernel
theorem dL_law_798 : decode cL_law 798 = .ok (.if_icmp .eq 650, 3) := by decide +kernel
theorem dL_law_801 : decode cL_law 801 = .ok (.iconst 0, 1) := by decide +kernel
theorem dL_law_802 : decode cL_law 802 = .ok (.ireturn, 1) := by decide +kernel
theorem dL_law_803 : decode cL_law 803 = .ok (.aload_n 1, 1) := by decide +kernel
theorem dL_law_804 : decode cL_law 804 = .ok (.invokevirtual 109, 3) := by decide +kernel
theorem dL_law_807 : decode cL_law 807 = .ok (.aload_n 2, 1) := by decide +kernel
theorem dL_law_808 : decode cL_law 808 = .ok (.invokevirtual 112, 3) := by decide +kernel
theorem dL_law_811 : decode cL_law 811 = .ok (.if_icmp .eq 637, 3) := by decide +kernel
theorem dL_law_814 : decode cL_law 814 = .ok (.iconst 0, 1) := by decide +kernel
theorem dL_law_815 : decode cL_law 815 = .ok (.ireturn, 1) := by decide +kernel
theorem dL_law_816 : decode cL_law 816 = .ok (.aload_n 1, 1) := by decide +kernel
theorem dL_law_817 : decode cL_law 817 = .ok (.aload_n 0, 1) := by decide +kernel
theorem dL_law_818 : decode cL_law 818 = .ok (.iload 4, 2) := by decide +kernel
theorem dL_law_820 : decode cL_law 820 = .ok (.iconst 1, 1) := by decide +kernel
theorem dL_law_821 : decode cL_law 821 = .ok (.iadd, 1) := by decide +kernel
theorem dL_law_822 : decode cL_law 822 = .ok (.iaload, 1) := by decide +kernel
theorem dL_law_823 : decode cL_law 823 = .ok (.aload_n 0, 1) := by decide +kernel
theorem dL_law_824 : decode cL_law 824 = .ok (.iload 4, 2) := by decide +kernel
theorem dL_law_826 : decode cL_law 826 = .ok (.iconst 2, 1) := by decide +kernel
theorem dL_law_827 : decode cL_law 827 = .ok (.iadd, 1) := by decide +kernel
theorem dL_law_828 : decode cL_law 828 = .ok (.iaload, 1) := by decide +kernel
theorem dL_law_829 : decode cL_law 829 = .ok (.aload_n 3, 1) := by decide +kernel
theorem dL_law_830 : decode cL_law 830 = .ok (.invokestatic 113, 3) := by decide +kernel
theorem dL_law_833 : decode cL_law 833 = .ok (.istore 5, 2) := by decide +kernel
theorem dL_law_835 : decode cL_law 835 = .ok (.aload_n 2, 1) := by decide +kernel
theorem dL_law_836 : decode cL_law 836 = .ok (.aload_n 0, 1) := by decide +kernel
theorem dL_law_837 : decode cL_law 837 = .ok (.iload 4, 2) := by decide +kernel
theorem dL_law_839 : decode cL_law 839 = .ok (.iconst 1, 1) := by decide +kernel
theorem dL_law_840 : decode cL_law 840 = .ok (.iadd, 1) := by decide +kernel
theorem dL_law_841 : decode cL_law 841 = .ok (.iaload, 1) := by decide +kernel
theorem dL_law_842 : decode cL_law 842 = .ok (.aload_n 0, 1) := by decide +kernel
theorem dL_law_843 : decode cL_law 843 = .ok (.iload 4, 2) := by decide +kernel
theorem dL_law_845 : decode cL_law 845 = .ok (.iconst 2, 1) := by decide +kernel
theorem dL_law_846 : decode cL_law 846 = .ok (.iadd, 1) := by decide +kernel
theorem dL_law_847 : decode cL_law 847 = .ok (.iaload, 1) := by decide +kernel
theorem dL_law_848 : decode cL_law 848 = .ok (.invokevirtual 115, 3) := by decide +kernel
theorem dL_law_851 : decode cL_law 851 = .ok (.istore 6, 2) := by decide +kernel
theorem dL_law_853 : decode cL_law 853 = .ok (.aload_n 2, 1) := by decide +kernel
theorem dL_law_854 : decode cL_law 854 = .ok (.invokevirtual 47, 3) := by decide +kernel
theorem dL_law_857 : decode cL_law 857 = .ok (.iload 5, 2) := by decide +kernel
theorem dL_law_859 : decode cL_law 859 = .ok (.if_icmp .eq 5, 3) := by decide +kernel
theorem dL_law_862 : decode cL_law 862 = .ok (.iconst 0, 1) := by decide +kernel
theorem dL_law_863 : decode cL_law 863 = .ok (.ireturn, 1) := by decide +kernel
theorem dL_law_864 : decode cL_law 864 = .ok (.iload 5, 2) := by decide +kernel
theorem dL_law_866 : decode cL_law 866 = .ok (.ifCond .ne 15, 3) := by decide +kernel
theorem dL_law_869 : decode cL_law 869 = .ok (.aload_n 3, 1) := by decide +kernel
theorem dL_law_870 : decode cL_law 870 = .ok (.iconst 0, 1) := by decide +kernel
theorem dL_law_871 : decode cL_law 871 = .ok (.laload, 1) := by decide +kernel
theorem dL_law_872 : decode cL_law 872 = .ok (.iload 6, 2) := by decide +kernel
theorem dL_law_874 : decode cL_law 874 = .ok (.i2l, 1) := by decide +kernel
theorem dL_law_875 : decode cL_law 875 = .ok (.lcmp, 1) := by decide +kernel
theorem dL_law_876 : decode cL_law 876 = .ok (.ifCond .eq 5, 3) := by decide +kernel
theorem dL_law_879 : decode cL_law 879 = .ok (.iconst 0, 1) := by decide +kernel
theorem dL_law_880 : decode cL_law 880 = .ok (.ireturn, 1) := by decide +kernel
theorem dL_law_881 : decode cL_law 881 = .ok (.goto 567, 3) := by decide +kernel
theorem dL_law_884 : decode cL_law 884 = .ok (.aload_n 1, 1) := by decide +kernel
theorem dL_law_885 : decode cL_law 885 = .ok (.aload_n 0, 1) := by decide +kernel
theorem dL_law_886 : decode cL_law 886 = .ok (.iload 4, 2) := by decide +kernel
theorem dL_law_888 : decode cL_law 888 = .ok (.iconst 1, 1) := by decide +kernel
theorem dL_law_889 : decode cL_law 889 = .ok (.iadd, 1) := by decide +kernel
theorem dL_law_890 : decode cL_law 890 = .ok (.iaload, 1) := by decide +kernel
theorem dL_law_891 : decode cL_law 891 = .ok (.invokevirtual 116, 3) := by decide +kernel
theorem dL_law_894 : decode cL_law 894 = .ok (.aload_n 2, 1) := by decide +kernel
theorem dL_law_895 : decode cL_law 895 = .ok (.aload_n 0, 1) := by decide +kernel
theorem dL_law_896 : decode cL_law 896 = .ok (.iload 4, 2) := by decide +kernel
theorem dL_law_898 : decode cL_law 898 = .ok (.iconst 1, 1) := by decide +kernel
theorem dL_law_899 : decode cL_law 899 = .ok (.iadd, 1) := by decide +kernel
theorem dL_law_900 : decode cL_law 900 = .ok (.iaload, 1) := by decide +kernel
theorem dL_law_901 : decode cL_law 901 = .ok (.invokevirtual 119, 3) := by decide +kernel
theorem dL_law_904 : decode cL_law 904 = .ok (.if_icmp .eq 544, 3) := by decide +kernel
theorem dL_law_907 : decode cL_law 907 = .ok (.iconst 0, 1) := by decide +kernel
theorem dL_law_908 : decode cL_law 908 = .ok (.ireturn, 1) := by decide +kernel
theorem dL_law_909 : decode cL_law 909 = .ok (.aload_n 1, 1) := by decide +kernel
theorem dL_law_910 : decode cL_law 910 = .ok (.aload_n 0, 1) := by decide +kernel
theorem dL_law_911 : decode cL_law 911 = .ok (.iload 4, 2) := by decide +kernel
theorem dL_law_913 : decode cL_law 913 = .ok (.iconst 1, 1) := by decide +kernel
theorem dL_law_914 : decode cL_law 914 = .ok (.iadd, 1) := by decide +kernel
theorem dL_law_915 : decode cL_law 915 = .ok (.iaload, 1) := by decide +kernel
theorem dL_law_916 : decode cL_law 916 = .ok (.invokevirtual 120, 3) := by decide +kernel
theorem dL_law_919 : decode cL_law 919 = .ok (.aload_n 2, 1) := by decide +kernel
theorem dL_law_920 : decode cL_law 920 = .ok (.aload_n 0, 1) := by decide +kernel
theorem dL_law_921 : decode cL_law 921 = .ok (.iload 4, 2) := by decide +kernel
theorem dL_law_923 : decode cL_law 923 = .ok (.iconst 1, 1) := by decide +kernel
theorem dL_law_924 : decode cL_law 924 = .ok (.iadd, 1) := by decide +kernel
theorem dL_law_925 : decode cL_law 925 = .ok (.iaload, 1) := by decide +kernel
theorem dL_law_926 : decode cL_law 926 = .ok (.invokevirtual 123, 3) := by decide +kernel
theorem dL_law_929 : decode cL_law 929 = .ok (.lcmp, 1) := by decide +kernel
theorem dL_law_930 : decode cL_law 930 = .ok (.ifCond .eq 518, 3) := by decide +kernel
theorem dL_law_933 : decode cL_law 933 = .ok (.iconst 0, 1) := by decide +kernel
theorem dL_law_934 : decode cL_law 934 = .ok (.ireturn, 1) := by decide +kernel
theorem dL_law_935 : decode cL_law 935 = .ok (.aload_n 1, 1) := by decide +kernel
theorem dL_law_936 : decode cL_law 936 = .ok (.aload_n 0, 1) := by decide +kernel
theorem dL_law_937 : decode cL_law 937 = .ok (.iload 4, 2) := by decide +kernel
theorem dL_law_939 : decode cL_law 939 = .ok (.iconst 1, 1) := by decide +kernel
theorem dL_law_940 : decode cL_law 940 = .ok (.iadd, 1) := by decide +kernel
theorem dL_law_941 : decode cL_law 941 = .ok (.iaload, 1) := by decide +kernel
theorem dL_law_942 : decode cL_law 942 = .ok (.invokevirtual 124, 3) := by decide +kernel
theorem dL_law_945 : decode cL_law 945 = .ok (.aload_n 2, 1) := by decide +kernel
theorem dL_law_946 : decode cL_law 946 = .ok (.aload_n 0, 1) := by decide +kernel
theorem dL_law_947 : decode cL_law 947 = .ok (.iload 4, 2) := by decide +kernel
theorem dL_law_949 : decode cL_law 949 = .ok (.iconst 1, 1) := by decide +kernel
theorem dL_law_950 : decode cL_law 950 = .ok (.iadd, 1) := by decide +kernel
theorem dL_law_951 : decode cL_law 951 = .ok (.iaload, 1) := by decide +kernel
theorem dL_law_952 : decode cL_law 952 = .ok (.invokevirtual 127, 3) := by decide +kernel
theorem dL_law_955 : decode cL_law 955 = .ok (.if_icmp .eq 493, 3) := by decide +kernel
theorem dL_law_958 : decode cL_law 958 = .ok (.iconst 0, 1) := by decide +kernel
theorem dL_law_959 : decode cL_law 959 = .ok (.ireturn, 1) := by decide +kernel
theorem dL_law_960 : decode cL_law 960 = .ok (.aload_n 1, 1) := by decide +kernel
theorem dL_law_961 : decode cL_law 961 = .ok (.aload_n 0, 1) := by decide +kernel
theorem dL_law_962 : decode cL_law 962 = .ok (.iload 4, 2) := by decide +kernel
theorem dL_law_964 : decode cL_law 964 = .ok (.iconst 1, 1) := by decide +kernel
theorem dL_law_965 : decode cL_law 965 = .ok (.iadd, 1) := by decide +kernel
theorem dL_law_966 : decode cL_law 966 = .ok (.iaload, 1) := by decide +kernel
theorem dL_law_967 : decode cL_law 967 = .ok (.invokevirtual 128, 3) := by decide +kernel
theorem dL_law_970 : decode cL_law 970 = .ok (.aload_n 2, 1) := by decide +kernel
theorem dL_law_971 : decode cL_law 971 = .ok (.aload_n 0, 1) := by decide +kernel
theorem dL_law_972 : decode cL_law 972 = .ok (.iload 4, 2) := by decide +kernel
theorem dL_law_974 : decode cL_law 974 = .ok (.iconst 1, 1) := by decide +kernel
theorem dL_law_975 : decode cL_law 975 = .ok (.iadd, 1) := by decide +kernel
theorem dL_law_976 : decode cL_law 976 = .ok (.iaload, 1) := by decide +kernel
theorem dL_law_977 : decode cL_law 977 = .ok (.invokevirtual 131, 3) := by decide +kernel
theorem dL_law_980 : decode cL_law 980 = .ok (.if_icmp .eq 468, 3) := by decide +kernel
theorem dL_law_983 : decode cL_law 983 = .ok (.iconst 0, 1) := by decide +kernel
theorem dL_law_984 : decode cL_law 984 = .ok (.ireturn, 1) := by decide +kernel
theorem dL_law_985 : decode cL_law 985 = .ok (.aload_n 1, 1) := by decide +kernel
theorem dL_law_986 : decode cL_law 986 = .ok (.aload_n 0, 1) := by decide +kernel
theorem dL_law_987 : decode cL_law 987 = .ok (.iload 4, 2) := by decide +kernel
theorem dL_law_989 : decode cL_law 989 = .ok (.iconst 1, 1) := by decide +kernel
theorem dL_law_990 : decode cL_law 990 = .ok (.iadd, 1) := by decide +kernel
theorem dL_law_991 : decode cL_law 991 = .ok (.iaload, 1) := by decide +kernel
theorem dL_law_992 : decode cL_law 992 = .ok (.aload_n 0, 1) := by decide +kernel
theorem dL_law_993 : decode cL_law 993 = .ok (.iload 4, 2) := by decide +kernel
theorem dL_law_995 : decode cL_law 995 = .ok (.iconst 2, 1) := by decide +kernel
theorem dL_law_996 : decode cL_law 996 = .ok (.iadd, 1) := by decide +kernel
theorem dL_law_997 : decode cL_law 997 = .ok (.iaload, 1) := by decide +kernel
theorem dL_law_998 : decode cL_law 998 = .ok (.invokevirtual 132, 3) := by decide +kernel
theorem dL_law_1001 : decode cL_law 1001 = .ok (.aload_n 2, 1) := by decide +kernel
theorem dL_law_1002 : decode cL_law 1002 = .ok (.aload_n 0, 1) := by decide +kernel
theorem dL_law_1003 : decode cL_law 1003 = .ok (.iload 4, 2) := by decide +kernel
theorem dL_law_1005 : decode cL_law 1005 = .ok (.iconst 1, 1) := by decide +kernel
theorem dL_law_1006 : decode cL_law 1006 = .ok (.iadd, 1) := by decide +kernel
theorem dL_law_1007 : decode cL_law 1007 = .ok (.iaload, 1) := by decide +kernel
theorem dL_law_1008 : decode cL_law 1008 = .ok (.aload_n 0, 1) := by decide +kernel
theorem dL_law_1009 : decode cL_law 1009 = .ok (.iload 4, 2) := by decide +kernel
theorem dL_law_1011 : decode cL_law 1011 = .ok (.iconst 2, 1) := by decide +kernel
theorem dL_law_1012 : decode cL_law 1012 = .ok (.iadd, 1) := by decide +kernel
theorem dL_law_1013 : decode cL_law 1013 = .ok (.iaload, 1) := by decide +kernel
theorem dL_law_1014 : decode cL_law 1014 = .ok (.invokevirtual 135, 3) := by decide +kernel
theorem dL_law_1017 : decode cL_law 1017 = .ok (.if_icmp .eq 431, 3) := by decide +kernel
theorem dL_law_1020 : decode cL_law 1020 = .ok (.iconst 0, 1) := by decide +kernel
theorem dL_law_1021 : decode cL_law 1021 = .ok (.ireturn, 1) := by decide +kernel
theorem dL_law_1022 : decode cL_law 1022 = .ok (.aload_n 1, 1) := by decide +kernel
theorem dL_law_1023 : decode cL_law 1023 = .ok (.aload_n 0, 1) := by decide +kernel
theorem dL_law_1024 : decode cL_law 1024 = .ok (.iload 4, 2) := by decide +kernel
theorem dL_law_1026 : decode cL_law 1026 = .ok (.iconst 1, 1) := by decide +kernel
theorem dL_law_1027 : decode cL_law 1027 = .ok (.iadd, 1) := by decide +kernel
theorem dL_law_1028 : decode cL_law 1028 = .ok (.iaload, 1) := by decide +kernel
theorem dL_law_1029 : decode cL_law 1029 = .ok (.aload_n 0, 1) := by decide +kernel
theorem dL_law_1030 : decode cL_law 1030 = .ok (.iload 4, 2) := by decide +kernel
theorem dL_law_1032 : decode cL_law 1032 = .ok (.iconst 2, 1) := by decide +kernel
theorem dL_law_1033 : decode cL_law 1033 = .ok (.iadd, 1) := by decide +kernel
theorem dL_law_1034 : decode cL_law 1034 = .ok (.iaload, 1) := by decide +kernel
theorem dL_law_1035 : decode cL_law 1035 = .ok (.invokevirtual 136, 3) := by decide +kernel
theorem dL_law_1038 : decode cL_law 1038 = .ok (.aload_n 2, 1) := by decide +kernel
theorem dL_law_1039 : decode cL_law 1039 = .ok (.aload_n 0, 1) := by decide +kernel
theorem dL_law_1040 : decode cL_law 1040 = .ok (.iload 4, 2) := by decide +kernel
theorem dL_law_1042 : decode cL_law 1042 = .ok (.iconst 1, 1) := by decide +kernel
theorem dL_law_1043 : decode cL_law 1043 = .ok (.iadd, 1) := by decide +kernel
theorem dL_law_1044 : decode cL_law 1044 = .ok (.iaload, 1) := by decide +kernel
theorem dL_law_1045 : decode cL_law 1045 = .ok (.aload_n 0, 1) := by decide +kernel
theorem dL_law_1046 : decode cL_law 1046 = .ok (.iload 4, 2) := by decide +kernel
theorem dL_law_1048 : decode cL_law 1048 = .ok (.iconst 2, 1) := by decide +kernel
theorem dL_law_1049 : decode cL_law 1049 = .ok (.iadd, 1) := by decide +kernel
theorem dL_law_1050 : decode cL_law 1050 = .ok (.iaload, 1) := by decide +kernel
theorem dL_law_1051 : decode cL_law 1051 = .ok (.invokevirtual 139, 3) := by decide +kernel
theorem dL_law_1054 : decode cL_law 1054 = .ok (.if_icmp .eq 394, 3) := by decide +kernel
theorem dL_law_1057 : decode cL_law 1057 = .ok (.iconst 0, 1) := by decide +kernel
theorem dL_law_1058 : decode cL_law 1058 = .ok (.ireturn, 1) := by decide +kernel
theorem dL_law_1059 : decode cL_law 1059 = .ok (.aload_n 1, 1) := by decide +kernel
theorem dL_law_1060 : decode cL_law 1060 = .ok (.aload_n 0, 1) := by decide +kernel
theorem dL_law_1061 : decode cL_law 1061 = .ok (.iload 4, 2) := by decide +kernel
theorem dL_law_1063 : decode cL_law 1063 = .ok (.iconst 1, 1) := by decide +kernel
theorem dL_law_1064 : decode cL_law 1064 = .ok (.iadd, 1) := by decide +kernel
theorem dL_law_1065 : decode cL_law 1065 = .ok (.iaload, 1) := by decide +kernel
theorem dL_law_1066 : decode cL_law 1066 = .ok (.invokevirtual 140, 3) := by decide +kernel
theorem dL_law_1069 : decode cL_law 1069 = .ok (.aload_n 2, 1) := by decide +kernel
theorem dL_law_1070 : decode cL_law 1070 = .ok (.aload_n 0, 1) := by decide +kernel
theorem dL_law_1071 : decode cL_law 1071 = .ok (.iload 4, 2) := by decide +kernel
theorem dL_law_1073 : decode cL_law 1073 = .ok (.iconst 1, 1) := by decide +kernel
theorem dL_law_1074 : decode cL_law 1074 = .ok (.iadd, 1) := by decide +kernel
theorem dL_law_1075 : decode cL_law 1075 = .ok (.iaload, 1) := by decide +kernel
theorem dL_law_1076 : decode cL_law 1076 = .ok (.invokevirtual 143, 3) := by decide +kernel
theorem dL_law_1079 : decode cL_law 1079 = .ok (.if_icmp .eq 369, 3) := by decide +kernel
theorem dL_law_1082 : decode cL_law 1082 = .ok (.iconst 0, 1) := by decide +kernel
theorem dL_law_1083 : decode cL_law 1083 = .ok (.ireturn, 1) := by decide +kernel
theorem dL_law_1084 : decode cL_law 1084 = .ok (.aload_n 1, 1) := by decide +kernel
theorem dL_law_1085 : decode cL_law 1085 = .ok (.aload_n 0, 1) := by decide +kernel
theorem dL_law_1086 : decode cL_law 1086 = .ok (.iload 4, 2) := by decide +kernel
theorem dL_law_1088 : decode cL_law 1088 = .ok (.iconst 1, 1) := by decide +kernel
theorem dL_law_1089 : decode cL_law 1089 = .ok (.iadd, 1) := by decide +kernel
theorem dL_law_1090 : decode cL_law 1090 = .ok (.iaload, 1) := by decide +kernel
theorem dL_law_1091 : decode cL_law 1091 = .ok (.invokevirtual 144, 3) := by decide +kernel
theorem dL_law_1094 : decode cL_law 1094 = .ok (.aload_n 2, 1) := by decide +kernel
theorem dL_law_1095 : decode cL_law 1095 = .ok (.aload_n 0, 1) := by decide +kernel
theorem dL_law_1096 : decode cL_law 1096 = .ok (.iload 4, 2) := by decide +kernel
theorem dL_law_1098 : decode cL_law 1098 = .ok (.iconst 1, 1) := by decide +kernel
theorem dL_law_1099 : decode cL_law 1099 = .ok (.iadd, 1) := by decide +kernel
theorem dL_law_1100 : decode cL_law 1100 = .ok (.iaload, 1) := by decide +kernel
theorem dL_law_1101 : decode cL_law 1101 = .ok (.invokevirtual 147, 3) := by decide +kernel
theorem dL_law_1104 : decode cL_law 1104 = .ok (.if_icmp .eq 344, 3) := by decide +kernel
theorem dL_law_1107 : decode cL_law 1107 = .ok (.iconst 0, 1) := by decide +kernel
theorem dL_law_1108 : decode cL_law 1108 = .ok (.ireturn, 1) := by decide +kernel
theorem dL_law_1109 : decode cL_law 1109 = .ok (.aload_n 1, 1) := by decide +kernel
theorem dL_law_1110 : decode cL_law 1110 = .ok (.aload_n 0, 1) := by decide +kernel
theorem dL_law_1111 : decode cL_law 1111 = .ok (.iload 4, 2) := by decide +kernel
theorem dL_law_1113 : decode cL_law 1113 = .ok (.iconst 1, 1) := by decide +kernel
theorem dL_law_1114 : decode cL_law 1114 = .ok (.iadd, 1) := by decide +kernel
theorem dL_law_1115 : decode cL_law 1115 = .ok (.iaload, 1) := by decide +kernel
theorem dL_law_1116 : decode cL_law 1116 = .ok (.invokevirtual 148, 3) := by decide +kernel
theorem dL_law_1119 : decode cL_law 1119 = .ok (.aload_n 2, 1) := by decide +kernel
theorem dL_law_1120 : decode cL_law 1120 = .ok (.aload_n 0, 1) := by decide +kernel
theorem dL_law_1121 : decode cL_law 1121 = .ok (.iload 4, 2) := by decide +kernel
theorem dL_law_1123 : decode cL_law 1123 = .ok (.iconst 1, 1) := by decide +kernel
theorem dL_law_1124 : decode cL_law 1124 = .ok (.iadd, 1) := by decide +kernel
theorem dL_law_1125 : decode cL_law 1125 = .ok (.iaload, 1) := by decide +kernel
theorem dL_law_1126 : decode cL_law 1126 = .ok (.invokevirtual 151, 3) := by decide +kernel
theorem dL_law_1129 : decode cL_law 1129 = .ok (.if_icmp .eq 319, 3) := by decide +kernel
theorem dL_law_1132 : decode cL_law 1132 = .ok (.iconst 0, 1) := by decide +kernel
theorem dL_law_1133 : decode cL_law 1133 = .ok (.ireturn, 1) := by decide +kernel
theorem dL_law_1134 : decode cL_law 1134 = .ok (.aload_n 1, 1) := by decide +kernel
theorem dL_law_1135 : decode cL_law 1135 = .ok (.aload_n 0, 1) := by decide +kernel
theorem dL_law_1136 : decode cL_law 1136 = .ok (.iload 4, 2) := by decide +kernel
theorem dL_law_1138 : decode cL_law 1138 = .ok (.iconst 1, 1) := by decide +kernel
theorem dL_law_1139 : decode cL_law 1139 = .ok (.iadd, 1) := by decide +kernel
theorem dL_law_1140 : decode cL_law 1140 = .ok (.iaload, 1) := by decide +kernel
theorem dL_law_1141 : decode cL_law 1141 = .ok (.invokevirtual 152, 3) := by decide +kernel
theorem dL_law_1144 : decode cL_law 1144 = .ok (.aload_n 2, 1) := by decide +kernel
theorem dL_law_1145 : decode cL_law 1145 = .ok (.aload_n 0, 1) := by decide +kernel
theorem dL_law_1146 : decode cL_law 1146 = .ok (.iload 4, 2) := by decide +kernel
theorem dL_law_1148 : decode cL_law 1148 = .ok (.iconst 1, 1) := by decide +kernel
theorem dL_law_1149 : decode cL_law 1149 = .ok (.iadd, 1) := by decide +kernel
theorem dL_law_1150 : decode cL_law 1150 = .ok (.iaload, 1) := by decide +kernel
theorem dL_law_1151 : decode cL_law 1151 = .ok (.invokevirtual 155, 3) := by decide +kernel
theorem dL_law_1154 : decode cL_law 1154 = .ok (.if_icmp .eq 294, 3) := by decide +kernel
theorem dL_law_1157 : decode cL_law 1157 = .ok (.iconst 0, 1) := by decide +kernel
theorem dL_law_1158 : decode cL_law 1158 = .ok (.ireturn, 1) := by decide +kernel
theorem dL_law_1159 : decode cL_law 1159 = .ok (.aload_n 1, 1) := by decide +kernel
theorem dL_law_1160 : decode cL_law 1160 = .ok (.aload_n 0, 1) := by decide +kernel
theorem dL_law_1161 : decode cL_law 1161 = .ok (.iload 4, 2) := by decide +kernel
theorem dL_law_1163 : decode cL_law 1163 = .ok (.iconst 1, 1) := by decide +kernel
theorem dL_law_1164 : decode cL_law 1164 = .ok (.iadd, 1) := by decide +kernel
theorem dL_law_1165 : decode cL_law 1165 = .ok (.iaload, 1) := by decide +kernel
theorem dL_law_1166 : decode cL_law 1166 = .ok (.aload_n 0, 1) := by decide +kernel
theorem dL_law_1167 : decode cL_law 1167 = .ok (.iload 4, 2) := by decide +kernel
theorem dL_law_1169 : decode cL_law 1169 = .ok (.iconst 2, 1) := by decide +kernel
theorem dL_law_1170 : decode cL_law 1170 = .ok (.iadd, 1) := by decide +kernel
theorem dL_law_1171 : decode cL_law 1171 = .ok (.iaload, 1) := by decide +kernel
theorem dL_law_1172 : decode cL_law 1172 = .ok (.aload_n 0, 1) := by decide +kernel
theorem dL_law_1173 : decode cL_law 1173 = .ok (.iload 4, 2) := by decide +kernel
theorem dL_law_1175 : decode cL_law 1175 = .ok (.iconst 3, 1) := by decide +kernel
theorem dL_law_1176 : decode cL_law 1176 = .ok (.iadd, 1) := by decide +kernel
theorem dL_law_1177 : decode cL_law 1177 = .ok (.iaload, 1) := by decide +kernel
theorem dL_law_1178 : decode cL_law 1178 = .ok (.aload_n 0, 1) := by decide +kernel
theorem dL_law_1179 : decode cL_law 1179 = .ok (.iload 4, 2) := by decide +kernel
theorem dL_law_1181 : decode cL_law 1181 = .ok (.iconst 4, 1) := by decide +kernel
theorem dL_law_1182 : decode cL_law 1182 = .ok (.iadd, 1) := by decide +kernel
theorem dL_law_1183 : decode cL_law 1183 = .ok (.iaload, 1) := by decide +kernel
theorem dL_law_1184 : decode cL_law 1184 = .ok (.invokevirtual 156, 3) := by decide +kernel
theorem dL_law_1187 : decode cL_law 1187 = .ok (.aload_n 2, 1) := by decide +kernel
theorem dL_law_1188 : decode cL_law 1188 = .ok (.aload_n 0, 1) := by decide +kernel
theorem dL_law_1189 : decode cL_law 1189 = .ok (.iload 4, 2) := by decide +kernel
theorem dL_law_1191 : decode cL_law 1191 = .ok (.iconst 1, 1) := by decide +kernel
theorem dL_law_1192 : decode cL_law 1192 = .ok (.iadd, 1) := by decide +kernel
theorem dL_law_1193 : decode cL_law 1193 = .ok (.iaload, 1) := by decide +kernel
theorem dL_law_1194 : decode cL_law 1194 = .ok (.aload_n 0, 1) := by decide +kernel
theorem dL_law_1195 : decode cL_law 1195 = .ok (.iload 4, 2) := by decide +kernel
theorem dL_law_1197 : decode cL_law 1197 = .ok (.iconst 2, 1) := by decide +kernel
theorem dL_law_1198 : decode cL_law 1198 = .ok (.iadd, 1) := by decide +kernel
theorem dL_law_1199 : decode cL_law 1199 = .ok (.iaload, 1) := by decide +kernel
theorem dL_law_1200 : decode cL_law 1200 = .ok (.aload_n 0, 1) := by decide +kernel
theorem dL_law_1201 : decode cL_law 1201 = .ok (.iload 4, 2) := by decide +kernel
theorem dL_law_1203 : decode cL_law 1203 = .ok (.iconst 3, 1) := by decide +kernel
theorem dL_law_1204 : decode cL_law 1204 = .ok (.iadd, 1) := by decide +kernel
theorem dL_law_1205 : decode cL_law 1205 = .ok (.iaload, 1) := by decide +kernel
theorem dL_law_1206 : decode cL_law 1206 = .ok (.aload_n 0, 1) := by decide +kernel
theorem dL_law_1207 : decode cL_law 1207 = .ok (.iload 4, 2) := by decide +kernel
theorem dL_law_1209 : decode cL_law 1209 = .ok (.iconst 4, 1) := by decide +kernel
theorem dL_law_1210 : decode cL_law 1210 = .ok (.iadd, 1) := by decide +kernel
theorem dL_law_1211 : decode cL_law 1211 = .ok (.iaload, 1) := by decide +kernel
theorem dL_law_1212 : decode cL_law 1212 = .ok (.invokevirtual 160, 3) := by decide +kernel
theorem dL_law_1215 : decode cL_law 1215 = .ok (.if_icmp .eq 233, 3) := by decide +kernel
theorem dL_law_1218 : decode cL_law 1218 = .ok (.iconst 0, 1) := by decide +kernel
theorem dL_law_1219 : decode cL_law 1219 = .ok (.ireturn, 1) := by decide +kernel
theorem dL_law_1220 : decode cL_law 1220 = .ok (.aload_n 1, 1) := by decide +kernel
theorem dL_law_1221 : decode cL_law 1221 = .ok (.invokevirtual 161, 3) := by decide +kernel
theorem dL_law_1224 : decode cL_law 1224 = .ok (.aload_n 2, 1) := by decide +kernel
theorem dL_law_1225 : decode cL_law 1225 = .ok (.invokevirtual 164, 3) := by decide +kernel
theorem dL_law_1228 : decode cL_law 1228 = .ok (.if_icmp .eq 220, 3) := by decide +kernel
theorem dL_law_1231 : decode cL_law 1231 = .ok (.iconst 0, 1) := by decide +kernel
theorem dL_law_1232 : decode cL_law 1232 = .ok (.ireturn, 1) := by decide +kernel
theorem dL_law_1233 : decode cL_law 1233 = .ok (.aload_n 1, 1) := by decide +kernel
theorem dL_law_1234 : decode cL_law 1234 = .ok (.aload_n 0, 1) := by decide +kernel
theorem dL_law_1235 : decode cL_law 1235 = .ok (.iload 4, 2) := by decide +kernel
theorem dL_law_1237 : decode cL_law 1237 = .ok (.iconst 1, 1) := by decide +kernel
theorem dL_law_1238 : decode cL_law 1238 = .ok (.iadd, 1) := by decide +kernel
theorem dL_law_1239 : decode cL_law 1239 = .ok (.iaload, 1) := by decide +kernel
theorem dL_law_1240 : decode cL_law 1240 = .ok (.aload_n 0, 1) := by decide +kernel
theorem dL_law_1241 : decode cL_law 1241 = .ok (.iload 4, 2) := by decide +kernel
theorem dL_law_1243 : decode cL_law 1243 = .ok (.iconst 2, 1) := by decide +kernel
theorem dL_law_1244 : decode cL_law 1244 = .ok (.iadd, 1) := by decide +kernel
theorem dL_law_1245 : decode cL_law 1245 = .ok (.iaload, 1) := by decide +kernel
theorem dL_law_1246 : decode cL_law 1246 = .ok (.invokevirtual 165, 3) := by decide +kernel
theorem dL_law_1249 : decode cL_law 1249 = .ok (.aload_n 2, 1) := by decide +kernel
theorem dL_law_1250 : decode cL_law 1250 = .ok (.aload_n 0, 1) := by decide +kernel
theorem dL_law_1251 : decode cL_law 1251 = .ok (.iload 4, 2) := by decide +kernel
theorem dL_law_1253 : decode cL_law 1253 = .ok (.iconst 1, 1) := by decide +kernel
theorem dL_law_1254 : decode cL_law 1254 = .ok (.iadd, 1) := by decide +kernel
theorem dL_law_1255 : decode cL_law 1255 = .ok (.iaload, 1) := by decide +kernel
theorem dL_law_1256 : decode cL_law 1256 = .ok (.aload_n 0, 1) := by decide +kernel
theorem dL_law_1257 : decode cL_law 1257 = .ok (.iload 4, 2) := by decide +kernel
theorem dL_law_1259 : decode cL_law 1259 = .ok (.iconst 2, 1) := by decide +kernel
theorem dL_law_1260 : decode cL_law 1260 = .ok (.iadd, 1) := by decide +kernel
theorem dL_law_1261 : decode cL_law 1261 = .ok (.iaload, 1) := by decide +kernel
theorem dL_law_1262 : decode cL_law 1262 = .ok (.invokevirtual 169, 3) := by decide +kernel
theorem dL_law_1265 : decode cL_law 1265 = .ok (.lcmp, 1) := by decide +kernel
theorem dL_law_1266 : decode cL_law 1266 = .ok (.ifCond .eq 182, 3) := by decide +kernel
theorem dL_law_1269 : decode cL_law 1269 = .ok (.iconst 0, 1) := by decide +kernel
theorem dL_law_1270 : decode cL_law 1270 = .ok (.ireturn, 1) := by decide +kernel
theorem dL_law_1271 : decode cL_law 1271 = .ok (.aload_n 1, 1) := by decide +kernel
theorem dL_law_1272 : decode cL_law 1272 = .ok (.aload_n 0, 1) := by decide +kernel
theorem dL_law_1273 : decode cL_law 1273 = .ok (.iload 4, 2) := by decide +kernel
theorem dL_law_1275 : decode cL_law 1275 = .ok (.iconst 1, 1) := by decide +kernel
theorem dL_law_1276 : decode cL_law 1276 = .ok (.iadd, 1) := by decide +kernel
theorem dL_law_1277 : decode cL_law 1277 = .ok (.iaload, 1) := by decide +kernel
theorem dL_law_1278 : decode cL_law 1278 = .ok (.invokevirtual 170, 3) := by decide +kernel
theorem dL_law_1281 : decode cL_law 1281 = .ok (.aload_n 2, 1) := by decide +kernel
theorem dL_law_1282 : decode cL_law 1282 = .ok (.aload_n 0, 1) := by decide +kernel
theorem dL_law_1283 : decode cL_law 1283 = .ok (.iload 4, 2) := by decide +kernel
theorem dL_law_1285 : decode cL_law 1285 = .ok (.iconst 1, 1) := by decide +kernel
theorem dL_law_1286 : decode cL_law 1286 = .ok (.iadd, 1) := by decide +kernel
theorem dL_law_1287 : decode cL_law 1287 = .ok (.iaload, 1) := by decide +kernel
theorem dL_law_1288 : decode cL_law 1288 = .ok (.invokevirtual 173, 3) := by decide +kernel
theorem dL_law_1291 : decode cL_law 1291 = .ok (.if_icmp .eq 157, 3) := by decide +kernel
theorem dL_law_1294 : decode cL_law 1294 = .ok (.iconst 0, 1) := by decide +kernel
theorem dL_law_1295 : decode cL_law 1295 = .ok (.ireturn, 1) := by decide +kernel
theorem dL_law_1296 : decode cL_law 1296 = .ok (.aload_n 1, 1) := by decide +kernel
theorem dL_law_1297 : decode cL_law 1297 = .ok (.invokevirtual 174, 3) := by decide +kernel
theorem dL_law_1300 : decode cL_law 1300 = .ok (.aload_n 2, 1) := by decide +kernel
theorem dL_law_1301 : decode cL_law 1301 = .ok (.invokevirtual 178, 3) := by decide +kernel
theorem dL_law_1304 : decode cL_law 1304 = .ok (.lcmp, 1) := by decide +kernel
theorem dL_law_1305 : decode cL_law 1305 = .ok (.ifCond .eq 143, 3) := by decide +kernel
theorem dL_law_1308 : decode cL_law 1308 = .ok (.iconst 0, 1) := by decide +kernel
theorem dL_law_1309 : decode cL_law 1309 = .ok (.ireturn, 1) := by decide +kernel
theorem dL_law_1310 : decode cL_law 1310 = .ok (.aload_n 1, 1) := by decide +kernel
theorem dL_law_1311 : decode cL_law 1311 = .ok (.invokevirtual 179, 3) := by decide +kernel
theorem dL_law_1314 : decode cL_law 1314 = .ok (.aload_n 2, 1) := by decide +kernel
theorem dL_law_1315 : decode cL_law 1315 = .ok (.invokevirtual 182, 3) := by decide +kernel
theorem dL_law_1318 : decode cL_law 1318 = .ok (.if_icmp .eq 130, 3) := by decide +kernel
theorem dL_law_1321 : decode cL_law 1321 = .ok (.iconst 0, 1) := by decide +kernel
theorem dL_law_1322 : decode cL_law 1322 = .ok (.ireturn, 1) := by decide +kernel
theorem dL_law_1323 : decode cL_law 1323 = .ok (.aload_n 1, 1) := by decide +kernel
theorem dL_law_1324 : decode cL_law 1324 = .ok (.aload_n 0, 1) := by decide +kernel
theorem dL_law_1325 : decode cL_law 1325 = .ok (.iload 4, 2) := by decide +kernel
theorem dL_law_1327 : decode cL_law 1327 = .ok (.iconst 1, 1) := by decide +kernel
theorem dL_law_1328 : decode cL_law 1328 = .ok (.iadd, 1) := by decide +kernel
theorem dL_law_1329 : decode cL_law 1329 = .ok (.iaload, 1) := by decide +kernel
theorem dL_law_1330 : decode cL_law 1330 = .ok (.invokevirtual 183, 3) := by decide +kernel
theorem dL_law_1333 : decode cL_law 1333 = .ok (.aload_n 2, 1) := by decide +kernel
theorem dL_law_1334 : decode cL_law 1334 = .ok (.aload_n 0, 1) := by decide +kernel
theorem dL_law_1335 : decode cL_law 1335 = .ok (.iload 4, 2) := by decide +kernel
theorem dL_law_1337 : decode cL_law 1337 = .ok (.iconst 1, 1) := by decide +kernel
theorem dL_law_1338 : decode cL_law 1338 = .ok (.iadd, 1) := by decide +kernel
theorem dL_law_1339 : decode cL_law 1339 = .ok (.iaload, 1) := by decide +kernel
theorem dL_law_1340 : decode cL_law 1340 = .ok (.invokevirtual 186, 3) := by decide +kernel
theorem dL_law_1343 : decode cL_law 1343 = .ok (.if_icmp .eq 105, 3) := by decide +kernel
theorem dL_law_1346 : decode cL_law 1346 = .ok (.iconst 0, 1) := by decide +kernel
theorem dL_law_1347 : decode cL_law 1347 = .ok (.ireturn, 1) := by decide +kernel
theorem dL_law_1348 : decode cL_law 1348 = .ok (.aload_n 1, 1) := by decide +kernel
theorem dL_law_1349 : decode cL_law 1349 = .ok (.aload_n 0, 1) := by decide +kernel
theorem dL_law_1350 : decode cL_law 1350 = .ok (.iload 4, 2) := by decide +kernel
theorem dL_law_1352 : decode cL_law 1352 = .ok (.iconst 1, 1) := by decide +kernel
theorem dL_law_1353 : decode cL_law 1353 = .ok (.iadd, 1) := by decide +kernel
theorem dL_law_1354 : decode cL_law 1354 = .ok (.iaload, 1) := by decide +kernel
theorem dL_law_1355 : decode cL_law 1355 = .ok (.invokevirtual 187, 3) := by decide +kernel
theorem dL_law_1358 : decode cL_law 1358 = .ok (.aload_n 2, 1) := by decide +kernel
theorem dL_law_1359 : decode cL_law 1359 = .ok (.aload_n 0, 1) := by decide +kernel
theorem dL_law_1360 : decode cL_law 1360 = .ok (.iload 4, 2) := by decide +kernel
theorem dL_law_1362 : decode cL_law 1362 = .ok (.iconst 1, 1) := by decide +kernel
theorem dL_law_1363 : decode cL_law 1363 = .ok (.iadd, 1) := by decide +kernel
theorem dL_law_1364 : decode cL_law 1364 = .ok (.iaload, 1) := by decide +kernel
theorem dL_law_1365 : decode cL_law 1365 = .ok (.invokevirtual 190, 3) := by decide +kernel
theorem dL_law_1368 : decode cL_law 1368 = .ok (.if_icmp .eq 80, 3) := by decide +kernel
theorem dL_law_1371 : decode cL_law 1371 = .ok (.iconst 0, 1) := by decide +kernel
theorem dL_law_1372 : decode cL_law 1372 = .ok (.ireturn, 1) := by decide +kernel
theorem dL_law_1373 : decode cL_law 1373 = .ok (.aload_n 1, 1) := by decide +kernel
theorem dL_law_1374 : decode cL_law 1374 = .ok (.aload_n 0, 1) := by decide +kernel
theorem dL_law_1375 : decode cL_law 1375 = .ok (.iload 4, 2) := by decide +kernel
theorem dL_law_1377 : decode cL_law 1377 = .ok (.iconst 1, 1) := by decide +kernel
theorem dL_law_1378 : decode cL_law 1378 = .ok (.iadd, 1) := by decide +kernel
theorem dL_law_1379 : decode cL_law 1379 = .ok (.iaload, 1) := by decide +kernel
theorem dL_law_1380 : decode cL_law 1380 = .ok (.invokevirtual 191, 3) := by decide +kernel
theorem dL_law_1383 : decode cL_law 1383 = .ok (.aload_n 2, 1) := by decide +kernel
theorem dL_law_1384 : decode cL_law 1384 = .ok (.aload_n 0, 1) := by decide +kernel
theorem dL_law_1385 : decode cL_law 1385 = .ok (.iload 4, 2) := by decide +kernel
theorem dL_law_1387 : decode cL_law 1387 = .ok (.iconst 1, 1) := by decide +kernel
theorem dL_law_1388 : decode cL_law 1388 = .ok (.iadd, 1) := by decide +kernel
theorem dL_law_1389 : decode cL_law 1389 = .ok (.iaload, 1) := by decide +kernel
theorem dL_law_1390 : decode cL_law 1390 = .ok (.invokevirtual 194, 3) := by decide +kernel
theorem dL_law_1393 : decode cL_law 1393 = .ok (.if_icmp .eq 55, 3) := by decide +kernel
theorem dL_law_1396 : decode cL_law 1396 = .ok (.iconst 0, 1) := by decide +kernel
theorem dL_law_1397 : decode cL_law 1397 = .ok (.ireturn, 1) := by decide +kernel
theorem dL_law_1398 : decode cL_law 1398 = .ok (.aload_n 1, 1) := by decide +kernel
theorem dL_law_1399 : decode cL_law 1399 = .ok (.aload_n 0, 1) := by decide +kernel
theorem dL_law_1400 : decode cL_law 1400 = .ok (.iload 4, 2) := by decide +kernel
theorem dL_law_1402 : decode cL_law 1402 = .ok (.iconst 1, 1) := by decide +kernel
theorem dL_law_1403 : decode cL_law 1403 = .ok (.iadd, 1) := by decide +kernel
theorem dL_law_1404 : decode cL_law 1404 = .ok (.iaload, 1) := by decide +kernel
theorem dL_law_1405 : decode cL_law 1405 = .ok (.invokevirtual 195, 3) := by decide +kernel
theorem dL_law_1408 : decode cL_law 1408 = .ok (.aload_n 2, 1) := by decide +kernel
theorem dL_law_1409 : decode cL_law 1409 = .ok (.aload_n 0, 1) := by decide +kernel
theorem dL_law_1410 : decode cL_law 1410 = .ok (.iload 4, 2) := by decide +kernel
theorem dL_law_1412 : decode cL_law 1412 = .ok (.iconst 1, 1) := by decide +kernel
theorem dL_law_1413 : decode cL_law 1413 = .ok (.iadd, 1) := by decide +kernel
theorem dL_law_1414 : decode cL_law 1414 = .ok (.iaload, 1) := by decide +kernel
theorem dL_law_1415 : decode cL_law 1415 = .ok (.invokevirtual 198, 3) := by decide +kernel
theorem dL_law_1418 : decode cL_law 1418 = .ok (.if_icmp .eq 30, 3) := by decide +kernel
theorem dL_law_1421 : decode cL_law 1421 = .ok (.iconst 0, 1) := by decide +kernel
theorem dL_law_1422 : decode cL_law 1422 = .ok (.ireturn, 1) := by decide +kernel
theorem dL_law_1423 : decode cL_law 1423 = .ok (.aload_n 1, 1) := by decide +kernel
theorem dL_law_1424 : decode cL_law 1424 = .ok (.aload_n 0, 1) := by decide +kernel
theorem dL_law_1425 : decode cL_law 1425 = .ok (.iload 4, 2) := by decide +kernel
theorem dL_law_1427 : decode cL_law 1427 = .ok (.iconst 1, 1) := by decide +kernel
theorem dL_law_1428 : decode cL_law 1428 = .ok (.iadd, 1) := by decide +kernel
theorem dL_law_1429 : decode cL_law 1429 = .ok (.iaload, 1) := by decide +kernel
theorem dL_law_1430 : decode cL_law 1430 = .ok (.invokevirtual 199, 3) := by decide +kernel
theorem dL_law_1433 : decode cL_law 1433 = .ok (.aload_n 2, 1) := by decide +kernel
theorem dL_law_1434 : decode cL_law 1434 = .ok (.aload_n 0, 1) := by decide +kernel
theorem dL_law_1435 : decode cL_law 1435 = .ok (.iload 4, 2) := by decide +kernel
theorem dL_law_1437 : decode cL_law 1437 = .ok (.iconst 1, 1) := by decide +kernel
theorem dL_law_1438 : decode cL_law 1438 = .ok (.iadd, 1) := by decide +kernel
theorem dL_law_1439 : decode cL_law 1439 = .ok (.iaload, 1) := by decide +kernel
theorem dL_law_1440 : decode cL_law 1440 = .ok (.invokevirtual 202, 3) := by decide +kernel
theorem dL_law_1443 : decode cL_law 1443 = .ok (.if_icmp .eq 5, 3) := by decide +kernel
theorem dL_law_1446 : decode cL_law 1446 = .ok (.iconst 0, 1) := by decide +kernel
theorem dL_law_1447 : decode cL_law 1447 = .ok (.ireturn, 1) := by decide +kernel
theorem dL_law_1448 : decode cL_law 1448 = .ok (.iinc 4 6, 3) := by decide +kernel
theorem dL_law_1451 : decode cL_law 1451 = .ok (.goto (-1428), 3) := by decide +kernel
theorem dL_law_1454 : decode cL_law 1454 = .ok (.iconst 1, 1) := by decide +kernel
theorem dL_law_1455 : decode cL_law 1455 = .ok (.ireturn, 1) := by decide +kernel
