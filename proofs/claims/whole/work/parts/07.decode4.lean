theorem dX13_alike_0 : decode cX13_alike 0 = .ok (.aload_n 0, 1) := by decide +kernel
theorem dX13_alike_1 : decode cX13_alike 1 = .ok (.iconst 0, 1) := by decide +kernel
theorem dX13_alike_2 : decode cX13_alike 2 = .ok (.putfield 1, 3) := by decide +kernel
theorem dX13_alike_5 : decode cX13_alike 5 = .ok (.aload_n 0, 1) := by decide +kernel
theorem dX13_alike_6 : decode cX13_alike 6 = .ok (.iload_n 1, 1) := by decide +kernel
theorem dX13_alike_7 : decode cX13_alike 7 = .ok (.invokevirtual 272, 3) := by decide +kernel
theorem dX13_alike_10 : decode cX13_alike 10 = .ok (.ifCond .ne 5, 3) := by decide +kernel
theorem dX13_alike_13 : decode cX13_alike 13 = .ok (.iconst (-1), 1) := by decide +kernel
theorem dX13_alike_14 : decode cX13_alike 14 = .ok (.ireturn, 1) := by decide +kernel
theorem dX13_alike_15 : decode cX13_alike 15 = .ok (.iconst 0, 1) := by decide +kernel
theorem dX13_alike_16 : decode cX13_alike 16 = .ok (.istore_n 2, 1) := by decide +kernel
theorem dX13_alike_17 : decode cX13_alike 17 = .ok (.iconst 0, 1) := by decide +kernel
theorem dX13_alike_18 : decode cX13_alike 18 = .ok (.istore_n 3, 1) := by decide +kernel
theorem dX13_alike_19 : decode cX13_alike 19 = .ok (.iload_n 3, 1) := by decide +kernel
theorem dX13_alike_20 : decode cX13_alike 20 = .ok (.aload_n 0, 1) := by decide +kernel
theorem dX13_alike_21 : decode cX13_alike 21 = .ok (.getfield 33, 3) := by decide +kernel
theorem dX13_alike_24 : decode cX13_alike 24 = .ok (.iconst 2, 1) := by decide +kernel
theorem dX13_alike_25 : decode cX13_alike 25 = .ok (.iaload, 1) := by decide +kernel
theorem dX13_alike_26 : decode cX13_alike 26 = .ok (.if_icmp .ge 174, 3) := by decide +kernel
theorem dX13_alike_29 : decode cX13_alike 29 = .ok (.iconst 1, 1) := by decide +kernel
theorem dX13_alike_30 : decode cX13_alike 30 = .ok (.istore 4, 2) := by decide +kernel
theorem dX13_alike_32 : decode cX13_alike 32 = .ok (.iconst 0, 1) := by decide +kernel
theorem dX13_alike_33 : decode cX13_alike 33 = .ok (.istore 5, 2) := by decide +kernel
theorem dX13_alike_35 : decode cX13_alike 35 = .ok (.iload 5, 2) := by decide +kernel
theorem dX13_alike_37 : decode cX13_alike 37 = .ok (.iconst 5, 1) := by decide +kernel
theorem dX13_alike_38 : decode cX13_alike 38 = .ok (.if_icmp .ge 141, 3) := by decide +kernel
theorem dX13_alike_41 : decode cX13_alike 41 = .ok (.iload 4, 2) := by decide +kernel
theorem dX13_alike_43 : decode cX13_alike 43 = .ok (.ifCond .eq 38, 3) := by decide +kernel
theorem dX13_alike_46 : decode cX13_alike 46 = .ok (.aload_n 0, 1) := by decide +kernel
theorem dX13_alike_47 : decode cX13_alike 47 = .ok (.getfield 33, 3) := by decide +kernel
theorem dX13_alike_50 : decode cX13_alike 50 = .ok (.bipush 72, 2) := by decide +kernel
theorem dX13_alike_52 : decode cX13_alike 52 = .ok (.iconst 5, 1) := by decide +kernel
theorem dX13_alike_53 : decode cX13_alike 53 = .ok (.iload_n 1, 1) := by decide +kernel
theorem dX13_alike_54 : decode cX13_alike 54 = .ok (.imul, 1) := by decide +kernel
theorem dX13_alike_55 : decode cX13_alike 55 = .ok (.iadd, 1) := by decide +kernel
theorem dX13_alike_56 : decode cX13_alike 56 = .ok (.iload 5, 2) := by decide +kernel
theorem dX13_alike_58 : decode cX13_alike 58 = .ok (.iadd, 1) := by decide +kernel
theorem dX13_alike_59 : decode cX13_alike 59 = .ok (.iaload, 1) := by decide +kernel
theorem dX13_alike_60 : decode cX13_alike 60 = .ok (.aload_n 0, 1) := by decide +kernel
theorem dX13_alike_61 : decode cX13_alike 61 = .ok (.getfield 33, 3) := by decide +kernel
theorem dX13_alike_64 : decode cX13_alike 64 = .ok (.bipush 72, 2) := by decide +kernel
theorem dX13_alike_66 : decode cX13_alike 66 = .ok (.iconst 5, 1) := by decide +kernel
theorem dX13_alike_67 : decode cX13_alike 67 = .ok (.iload_n 3, 1) := by decide +kernel
theorem dX13_alike_68 : decode cX13_alike 68 = .ok (.imul, 1) := by decide +kernel
theorem dX13_alike_69 : decode cX13_alike 69 = .ok (.iadd, 1) := by decide +kernel
theorem dX13_alike_70 : decode cX13_alike 70 = .ok (.iload 5, 2) := by decide +kernel
theorem dX13_alike_72 : decode cX13_alike 72 = .ok (.iadd, 1) := by decide +kernel
theorem dX13_alike_73 : decode cX13_alike 73 = .ok (.iaload, 1) := by decide +kernel
theorem dX13_alike_74 : decode cX13_alike 74 = .ok (.if_icmp .ne 7, 3) := by decide +kernel
theorem dX13_alike_77 : decode cX13_alike 77 = .ok (.iconst 1, 1) := by decide +kernel
theorem dX13_alike_78 : decode cX13_alike 78 = .ok (.goto 4, 3) := by decide +kernel
theorem dX13_alike_81 : decode cX13_alike 81 = .ok (.iconst 0, 1) := by decide +kernel
theorem dX13_alike_82 : decode cX13_alike 82 = .ok (.istore 4, 2) := by decide +kernel
theorem dX13_alike_84 : decode cX13_alike 84 = .ok (.iconst 0, 1) := by decide +kernel
theorem dX13_alike_85 : decode cX13_alike 85 = .ok (.istore 6, 2) := by decide +kernel
theorem dX13_alike_87 : decode cX13_alike 87 = .ok (.iload 6, 2) := by decide +kernel
theorem dX13_alike_89 : decode cX13_alike 89 = .ok (.bipush 8, 2) := by decide +kernel
theorem dX13_alike_91 : decode cX13_alike 91 = .ok (.if_icmp .ge 82, 3) := by decide +kernel
theorem dX13_alike_94 : decode cX13_alike 94 = .ok (.aload_n 0, 1) := by decide +kernel
theorem dX13_alike_95 : decode cX13_alike 95 = .ok (.getfield 33, 3) := by decide +kernel
theorem dX13_alike_98 : decode cX13_alike 98 = .ok (.bipush 72, 2) := by decide +kernel
theorem dX13_alike_100 : decode cX13_alike 100 = .ok (.iconst 5, 1) := by decide +kernel
theorem dX13_alike_101 : decode cX13_alike 101 = .ok (.iload_n 1, 1) := by decide +kernel
theorem dX13_alike_102 : decode cX13_alike 102 = .ok (.imul, 1) := by decide +kernel
theorem dX13_alike_103 : decode cX13_alike 103 = .ok (.iadd, 1) := by decide +kernel
theorem dX13_alike_104 : decode cX13_alike 104 = .ok (.iload 5, 2) := by decide +kernel
theorem dX13_alike_106 : decode cX13_alike 106 = .ok (.iadd, 1) := by decide +kernel
theorem dX13_alike_107 : decode cX13_alike 107 = .ok (.iaload, 1) := by decide +kernel
theorem dX13_alike_108 : decode cX13_alike 108 = .ok (.iconst 1, 1) := by decide +kernel
theorem dX13_alike_109 : decode cX13_alike 109 = .ok (.if_icmp .ne 64, 3) := by decide +kernel
theorem dX13_alike_112 : decode cX13_alike 112 = .ok (.iload 4, 2) := by decide +kernel
theorem dX13_alike_114 : decode cX13_alike 114 = .ok (.ifCond .eq 50, 3) := by decide +kernel
theorem dX13_alike_117 : decode cX13_alike 117 = .ok (.aload_n 0, 1) := by decide +kernel
theorem dX13_alike_118 : decode cX13_alike 118 = .ok (.getfield 33, 3) := by decide +kernel
theorem dX13_alike_121 : decode cX13_alike 121 = .ok (.bipush 112, 2) := by decide +kernel
theorem dX13_alike_123 : decode cX13_alike 123 = .ok (.bipush 8, 2) := by decide +kernel
theorem dX13_alike_125 : decode cX13_alike 125 = .ok (.iconst 5, 1) := by decide +kernel
theorem dX13_alike_126 : decode cX13_alike 126 = .ok (.iload_n 1, 1) := by decide +kernel
theorem dX13_alike_127 : decode cX13_alike 127 = .ok (.imul, 1) := by decide +kernel
theorem dX13_alike_128 : decode cX13_alike 128 = .ok (.iload 5, 2) := by decide +kernel
theorem dX13_alike_130 : decode cX13_alike 130 = .ok (.iadd, 1) := by decide +kernel
theorem dX13_alike_131 : decode cX13_alike 131 = .ok (.imul, 1) := by decide +kernel
theorem dX13_alike_132 : decode cX13_alike 132 = .ok (.iadd, 1) := by decide +kernel
theorem dX13_alike_133 : decode cX13_alike 133 = .ok (.iload 6, 2) := by decide +kernel
theorem dX13_alike_135 : decode cX13_alike 135 = .ok (.iadd, 1) := by decide +kernel
theorem dX13_alike_136 : decode cX13_alike 136 = .ok (.iaload, 1) := by decide +kernel
theorem dX13_alike_137 : decode cX13_alike 137 = .ok (.aload_n 0, 1) := by decide +kernel
theorem dX13_alike_138 : decode cX13_alike 138 = .ok (.getfield 33, 3) := by decide +kernel
theorem dX13_alike_141 : decode cX13_alike 141 = .ok (.bipush 112, 2) := by decide +kernel
theorem dX13_alike_143 : decode cX13_alike 143 = .ok (.bipush 8, 2) := by decide +kernel
theorem dX13_alike_145 : decode cX13_alike 145 = .ok (.iconst 5, 1) := by decide +kernel
theorem dX13_alike_146 : decode cX13_alike 146 = .ok (.iload_n 3, 1) := by decide +kernel
theorem dX13_alike_147 : decode cX13_alike 147 = .ok (.imul, 1) := by decide +kernel
theorem dX13_alike_148 : decode cX13_alike 148 = .ok (.iload 5, 2) := by decide +kernel
theorem dX13_alike_150 : decode cX13_alike 150 = .ok (.iadd, 1) := by decide +kernel
theorem dX13_alike_151 : decode cX13_alike 151 = .ok (.imul, 1) := by decide +kernel
theorem dX13_alike_152 : decode cX13_alike 152 = .ok (.iadd, 1) := by decide +kernel
theorem dX13_alike_153 : decode cX13_alike 153 = .ok (.iload 6, 2) := by decide +kernel
theorem dX13_alike_155 : decode cX13_alike 155 = .ok (.iadd, 1) := by decide +kernel
theorem dX13_alike_156 : decode cX13_alike 156 = .ok (.iaload, 1) := by decide +kernel
theorem dX13_alike_157 : decode cX13_alike 157 = .ok (.if_icmp .ne 7, 3) := by decide +kernel
theorem dX13_alike_160 : decode cX13_alike 160 = .ok (.iconst 1, 1) := by decide +kernel
theorem dX13_alike_161 : decode cX13_alike 161 = .ok (.goto 4, 3) := by decide +kernel
theorem dX13_alike_164 : decode cX13_alike 164 = .ok (.iconst 0, 1) := by decide +kernel
theorem dX13_alike_165 : decode cX13_alike 165 = .ok (.istore 4, 2) := by decide +kernel
theorem dX13_alike_167 : decode cX13_alike 167 = .ok (.iinc 6 1, 3) := by decide +kernel
theorem dX13_alike_170 : decode cX13_alike 170 = .ok (.goto (-83), 3) := by decide +kernel
theorem dX13_alike_173 : decode cX13_alike 173 = .ok (.iinc 5 1, 3) := by decide +kernel
theorem dX13_alike_176 : decode cX13_alike 176 = .ok (.goto (-141), 3) := by decide +kernel
theorem dX13_alike_179 : decode cX13_alike 179 = .ok (.iload_n 2, 1) := by decide +kernel
theorem dX13_alike_180 : decode cX13_alike 180 = .ok (.iload 4, 2) := by decide +kernel
theorem dX13_alike_182 : decode cX13_alike 182 = .ok (.ifCond .eq 9, 3) := by decide +kernel
theorem dX13_alike_185 : decode cX13_alike 185 = .ok (.iconst 1, 1) := by decide +kernel
theorem dX13_alike_186 : decode cX13_alike 186 = .ok (.iload_n 3, 1) := by decide +kernel
theorem dX13_alike_187 : decode cX13_alike 187 = .ok (.ishl, 1) := by decide +kernel
theorem dX13_alike_188 : decode cX13_alike 188 = .ok (.goto 4, 3) := by decide +kernel
theorem dX13_alike_191 : decode cX13_alike 191 = .ok (.iconst 0, 1) := by decide +kernel
theorem dX13_alike_192 : decode cX13_alike 192 = .ok (.ior, 1) := by decide +kernel
theorem dX13_alike_193 : decode cX13_alike 193 = .ok (.istore_n 2, 1) := by decide +kernel
theorem dX13_alike_194 : decode cX13_alike 194 = .ok (.iinc 3 1, 3) := by decide +kernel
theorem dX13_alike_197 : decode cX13_alike 197 = .ok (.goto (-178), 3) := by decide +kernel
theorem dX13_alike_200 : decode cX13_alike 200 = .ok (.iload_n 2, 1) := by decide +kernel
theorem dX13_alike_201 : decode cX13_alike 201 = .ok (.ireturn, 1) := by decide +kernel
theorem dX13_text_0 : decode cX13_text 0 = .ok (.aload_n 0, 1) := by decide +kernel
theorem dX13_text_1 : decode cX13_text 1 = .ok (.iconst 0, 1) := by decide +kernel
theorem dX13_text_2 : decode cX13_text 2 = .ok (.putfield 1, 3) := by decide +kernel
theorem dX13_text_5 : decode cX13_text 5 = .ok (.aload_n 0, 1) := by decide +kernel
theorem dX13_text_6 : decode cX13_text 6 = .ok (.sipush 200, 3) := by decide +kernel
theorem dX13_text_9 : decode cX13_text 9 = .ok (.invokevirtual 260, 3) := by decide +kernel
theorem dX13_text_12 : decode cX13_text 12 = .ok (.aload_n 0, 1) := by decide +kernel
theorem dX13_text_13 : decode cX13_text 13 = .ok (.iconst 0, 1) := by decide +kernel
theorem dX13_text_14 : decode cX13_text 14 = .ok (.putfield 189, 3) := by decide +kernel
theorem dX13_text_17 : decode cX13_text 17 = .ok (.iconst 0, 1) := by decide +kernel
theorem dX13_text_18 : decode cX13_text 18 = .ok (.istore_n 1, 1) := by decide +kernel
theorem dX13_text_19 : decode cX13_text 19 = .ok (.aload_n 0, 1) := by decide +kernel
theorem dX13_text_20 : decode cX13_text 20 = .ok (.invokevirtual 201, 3) := by decide +kernel
theorem dX13_text_23 : decode cX13_text 23 = .ok (.aload_n 0, 1) := by decide +kernel
theorem dX13_text_24 : decode cX13_text 24 = .ok (.getfield 172, 3) := by decide +kernel
theorem dX13_text_27 : decode cX13_text 27 = .ok (.ifCond .eq 88, 3) := by decide +kernel
theorem dX13_text_30 : decode cX13_text 30 = .ok (.aload_n 0, 1) := by decide +kernel
theorem dX13_text_31 : decode cX13_text 31 = .ok (.invokevirtual 211, 3) := by decide +kernel
theorem dX13_text_34 : decode cX13_text 34 = .ok (.ifCond .ne 18, 3) := by decide +kernel
theorem dX13_text_37 : decode cX13_text 37 = .ok (.aload_n 0, 1) := by decide +kernel
theorem dX13_text_38 : decode cX13_text 38 = .ok (.iconst 1, 1) := by decide +kernel
theorem dX13_text_39 : decode cX13_text 39 = .ok (.invokevirtual 198, 3) := by decide +kernel
theorem dX13_text_42 : decode cX13_text 42 = .ok (.ifCond .ne 10, 3) := by decide +kernel
theorem dX13_text_45 : decode cX13_text 45 = .ok (.iconst (-1), 1) := by decide +kernel
theorem dX13_text_46 : decode cX13_text 46 = .ok (.aload_n 0, 1) := by decide +kernel
theorem dX13_text_47 : decode cX13_text 47 = .ok (.getfield 192, 3) := by decide +kernel
theorem dX13_text_50 : decode cX13_text 50 = .ok (.isub, 1) := by decide +kernel
theorem dX13_text_51 : decode cX13_text 51 = .ok (.ireturn, 1) := by decide +kernel
theorem dX13_text_52 : decode cX13_text 52 = .ok (.aload_n 0, 1) := by decide +kernel
theorem dX13_text_53 : decode cX13_text 53 = .ok (.bipush 8, 2) := by decide +kernel
theorem dX13_text_55 : decode cX13_text 55 = .ok (.aload_n 0, 1) := by decide +kernel
theorem dX13_text_56 : decode cX13_text 56 = .ok (.getfield 33, 3) := by decide +kernel
theorem dX13_text_59 : decode cX13_text 59 = .ok (.iconst 2, 1) := by decide +kernel
theorem dX13_text_60 : decode cX13_text 60 = .ok (.iaload, 1) := by decide +kernel
theorem dX13_text_61 : decode cX13_text 61 = .ok (.invokevirtual 215, 3) := by decide +kernel
theorem dX13_text_64 : decode cX13_text 64 = .ok (.istore_n 2, 1) := by decide +kernel
theorem dX13_text_65 : decode cX13_text 65 = .ok (.iload_n 2, 1) := by decide +kernel
theorem dX13_text_66 : decode cX13_text 66 = .ok (.ifCond .ge 11, 3) := by decide +kernel
theorem dX13_text_69 : decode cX13_text 69 = .ok (.aload_n 0, 1) := by decide +kernel
theorem dX13_text_70 : decode cX13_text 70 = .ok (.iconst 3, 1) := by decide +kernel
theorem dX13_text_71 : decode cX13_text 71 = .ok (.invokevirtual 198, 3) := by decide +kernel
theorem dX13_text_74 : decode cX13_text 74 = .ok (.ifCond .eq 17, 3) := by decide +kernel
theorem dX13_text_77 : decode cX13_text 77 = .ok (.iload_n 1, 1) := by decide +kernel
theorem dX13_text_78 : decode cX13_text 78 = .ok (.bipush 24, 2) := by decide +kernel
theorem dX13_text_80 : decode cX13_text 80 = .ok (.if_icmp .ne 18, 3) := by decide +kernel
theorem dX13_text_83 : decode cX13_text 83 = .ok (.aload_n 0, 1) := by decide +kernel
theorem dX13_text_84 : decode cX13_text 84 = .ok (.iconst 4, 1) := by decide +kernel
theorem dX13_text_85 : decode cX13_text 85 = .ok (.invokevirtual 198, 3) := by decide +kernel
theorem dX13_text_88 : decode cX13_text 88 = .ok (.ifCond .ne 10, 3) := by decide +kernel
theorem dX13_text_91 : decode cX13_text 91 = .ok (.iconst (-1), 1) := by decide +kernel
theorem dX13_text_92 : decode cX13_text 92 = .ok (.aload_n 0, 1) := by decide +kernel
theorem dX13_text_93 : decode cX13_text 93 = .ok (.getfield 192, 3) := by decide +kernel
theorem dX13_text_96 : decode cX13_text 96 = .ok (.isub, 1) := by decide +kernel
theorem dX13_text_97 : decode cX13_text 97 = .ok (.ireturn, 1) := by decide +kernel
theorem dX13_text_98 : decode cX13_text 98 = .ok (.aload_n 0, 1) := by decide +kernel
theorem dX13_text_99 : decode cX13_text 99 = .ok (.getfield 53, 3) := by decide +kernel
theorem dX13_text_102 : decode cX13_text 102 = .ok (.iload_n 1, 1) := by decide +kernel
theorem dX13_text_103 : decode cX13_text 103 = .ok (.iload_n 2, 1) := by decide +kernel
theorem dX13_text_104 : decode cX13_text 104 = .ok (.iastore, 1) := by decide +kernel
theorem dX13_text_105 : decode cX13_text 105 = .ok (.iinc 1 1, 3) := by decide +kernel
theorem dX13_text_108 : decode cX13_text 108 = .ok (.aload_n 0, 1) := by decide +kernel
theorem dX13_text_109 : decode cX13_text 109 = .ok (.invokevirtual 201, 3) := by decide +kernel
theorem dX13_text_112 : decode cX13_text 112 = .ok (.goto (-89), 3) := by decide +kernel
theorem dX13_text_115 : decode cX13_text 115 = .ok (.aload_n 0, 1) := by decide +kernel
theorem dX13_text_116 : decode cX13_text 116 = .ok (.aload_n 0, 1) := by decide +kernel
theorem dX13_text_117 : decode cX13_text 117 = .ok (.getfield 53, 3) := by decide +kernel
theorem dX13_text_120 : decode cX13_text 120 = .ok (.iload_n 1, 1) := by decide +kernel
theorem dX13_text_121 : decode cX13_text 121 = .ok (.invokevirtual 279, 3) := by decide +kernel
theorem dX13_text_124 : decode cX13_text 124 = .ok (.iload_n 1, 1) := by decide +kernel
theorem dX13_text_125 : decode cX13_text 125 = .ok (.ireturn, 1) := by decide +kernel
theorem dX13_keep_0 : decode cX13_keep 0 = .ok (.aload_n 0, 1) := by decide +kernel
theorem dX13_keep_1 : decode cX13_keep 1 = .ok (.getfield 33, 3) := by decide +kernel
theorem dX13_keep_4 : decode cX13_keep 4 = .ok (.sipush 437, 3) := by decide +kernel
theorem dX13_keep_7 : decode cX13_keep 7 = .ok (.iload_n 2, 1) := by decide +kernel
theorem dX13_keep_8 : decode cX13_keep 8 = .ok (.iastore, 1) := by decide +kernel
theorem dX13_keep_9 : decode cX13_keep 9 = .ok (.iconst 0, 1) := by decide +kernel
theorem dX13_keep_10 : decode cX13_keep 10 = .ok (.istore_n 3, 1) := by decide +kernel
theorem dX13_keep_11 : decode cX13_keep 11 = .ok (.iload_n 3, 1) := by decide +kernel
theorem dX13_keep_12 : decode cX13_keep 12 = .ok (.iload_n 2, 1) := by decide +kernel
theorem dX13_keep_13 : decode cX13_keep 13 = .ok (.if_icmp .ge 22, 3) := by decide +kernel
theorem dX13_keep_16 : decode cX13_keep 16 = .ok (.aload_n 0, 1) := by decide +kernel
theorem dX13_keep_17 : decode cX13_keep 17 = .ok (.getfield 33, 3) := by decide +kernel
theorem dX13_keep_20 : decode cX13_keep 20 = .ok (.sipush 438, 3) := by decide +kernel
theorem dX13_keep_23 : decode cX13_keep 23 = .ok (.iload_n 3, 1) := by decide +kernel
theorem dX13_keep_24 : decode cX13_keep 24 = .ok (.iadd, 1) := by decide +kernel
theorem dX13_keep_25 : decode cX13_keep 25 = .ok (.aload_n 1, 1) := by decide +kernel
theorem dX13_keep_26 : decode cX13_keep 26 = .ok (.iload_n 3, 1) := by decide +kernel
theorem dX13_keep_27 : decode cX13_keep 27 = .ok (.iaload, 1) := by decide +kernel
theorem dX13_keep_28 : decode cX13_keep 28 = .ok (.iastore, 1) := by decide +kernel
theorem dX13_keep_29 : decode cX13_keep 29 = .ok (.iinc 3 1, 3) := by decide +kernel
theorem dX13_keep_32 : decode cX13_keep 32 = .ok (.goto (-21), 3) := by decide +kernel
theorem dX13_keep_35 : decode cX13_keep 35 = .ok (.return_, 1) := by decide +kernel
theorem dX13_lay_0 : decode cX13_lay 0 = .ok (.aload_n 0, 1) := by decide +kernel
theorem dX13_lay_1 : decode cX13_lay 1 = .ok (.iconst 0, 1) := by decide +kernel
theorem dX13_lay_2 : decode cX13_lay 2 = .ok (.putfield 1, 3) := by decide +kernel
theorem dX13_lay_5 : decode cX13_lay 5 = .ok (.aload_n 0, 1) := by decide +kernel
theorem dX13_lay_6 : decode cX13_lay 6 = .ok (.sipush 940, 3) := by decide +kernel
theorem dX13_lay_9 : decode cX13_lay 9 = .ok (.invokevirtual 260, 3) := by decide +kernel
theorem dX13_lay_12 : decode cX13_lay 12 = .ok (.aload_n 0, 1) := by decide +kernel
theorem dX13_lay_13 : decode cX13_lay 13 = .ok (.getfield 18, 3) := by decide +kernel
theorem dX13_lay_16 : decode cX13_lay 16 = .ok (.bipush 24, 2) := by decide +kernel
theorem dX13_lay_18 : decode cX13_lay 18 = .ok (.if_icmp .le 5, 3) := by decide +kernel
theorem dX13_lay_21 : decode cX13_lay 21 = .ok (.iconst (-1), 1) := by decide +kernel
theorem dX13_lay_22 : decode cX13_lay 22 = .ok (.ireturn, 1) := by decide +kernel
theorem dX13_lay_23 : decode cX13_lay 23 = .ok (.iconst 0, 1) := by decide +kernel
theorem dX13_lay_24 : decode cX13_lay 24 = .ok (.istore_n 1, 1) := by decide +kernel
theorem dX13_lay_25 : decode cX13_lay 25 = .ok (.iload_n 1, 1) := by decide +kernel
theorem dX13_lay_26 : decode cX13_lay 26 = .ok (.aload_n 0, 1) := by decide +kernel
theorem dX13_lay_27 : decode cX13_lay 27 = .ok (.getfield 18, 3) := by decide +kernel
theorem dX13_lay_30 : decode cX13_lay 30 = .ok (.if_icmp .ge 35, 3) := by decide +kernel
theorem dX13_lay_33 : decode cX13_lay 33 = .ok (.aload_n 0, 1) := by decide +kernel
theorem dX13_lay_34 : decode cX13_lay 34 = .ok (.getfield 53, 3) := by decide +kernel
theorem dX13_lay_37 : decode cX13_lay 37 = .ok (.iload_n 1, 1) := by decide +kernel
theorem dX13_lay_38 : decode cX13_lay 38 = .ok (.aload_n 0, 1) := by decide +kernel
theorem dX13_lay_39 : decode cX13_lay 39 = .ok (.iload_n 1, 1) := by decide +kernel
theorem dX13_lay_40 : decode cX13_lay 40 = .ok (.invokevirtual 283, 3) := by decide +kernel
theorem dX13_lay_43 : decode cX13_lay 43 = .ok (.iastore, 1) := by decide +kernel
theorem dX13_lay_44 : decode cX13_lay 44 = .ok (.aload_n 0, 1) := by decide +kernel
theorem dX13_lay_45 : decode cX13_lay 45 = .ok (.aload_n 0, 1) := by decide +kernel
theorem dX13_lay_46 : decode cX13_lay 46 = .ok (.getfield 53, 3) := by decide +kernel
theorem dX13_lay_49 : decode cX13_lay 49 = .ok (.iload_n 1, 1) := by decide +kernel
theorem dX13_lay_50 : decode cX13_lay 50 = .ok (.iaload, 1) := by decide +kernel
theorem dX13_lay_51 : decode cX13_lay 51 = .ok (.invokevirtual 272, 3) := by decide +kernel
theorem dX13_lay_54 : decode cX13_lay 54 = .ok (.ifCond .ne 5, 3) := by decide +kernel
theorem dX13_lay_57 : decode cX13_lay 57 = .ok (.iconst (-1), 1) := by decide +kernel
theorem dX13_lay_58 : decode cX13_lay 58 = .ok (.ireturn, 1) := by decide +kernel
theorem dX13_lay_59 : decode cX13_lay 59 = .ok (.iinc 1 1, 3) := by decide +kernel
theorem dX13_lay_62 : decode cX13_lay 62 = .ok (.goto (-37), 3) := by decide +kernel
theorem dX13_lay_65 : decode cX13_lay 65 = .ok (.aload_n 0, 1) := by decide +kernel
theorem dX13_lay_66 : decode cX13_lay 66 = .ok (.aload_n 0, 1) := by decide +kernel
theorem dX13_lay_67 : decode cX13_lay 67 = .ok (.getfield 53, 3) := by decide +kernel
theorem dX13_lay_70 : decode cX13_lay 70 = .ok (.aload_n 0, 1) := by decide +kernel
theorem dX13_lay_71 : decode cX13_lay 71 = .ok (.getfield 18, 3) := by decide +kernel
theorem dX13_lay_74 : decode cX13_lay 74 = .ok (.invokevirtual 279, 3) := by decide +kernel
theorem dX13_lay_77 : decode cX13_lay 77 = .ok (.aload_n 0, 1) := by decide +kernel
theorem dX13_lay_78 : decode cX13_lay 78 = .ok (.getfield 18, 3) := by decide +kernel
theorem dX13_lay_81 : decode cX13_lay 81 = .ok (.ireturn, 1) := by decide +kernel
theorem dX13_draw_0 : decode cX13_draw 0 = .ok (.aload_n 0, 1) := by decide +kernel
theorem dX13_draw_1 : decode cX13_draw 1 = .ok (.aload_n 0, 1) := by decide +kernel
theorem dX13_draw_2 : decode cX13_draw 2 = .ok (.getfield 287, 3) := by decide +kernel
theorem dX13_draw_5 : decode cX13_draw 5 = .ok (.ldc_w 290, 3) := by decide +kernel
theorem dX13_draw_8 : decode cX13_draw 8 = .ok (.imul, 1) := by decide +kernel
theorem dX13_draw_9 : decode cX13_draw 9 = .ok (.sipush 12345, 3) := by decide +kernel
theorem dX13_draw_12 : decode cX13_draw 12 = .ok (.iadd, 1) := by decide +kernel
theorem dX13_draw_13 : decode cX13_draw 13 = .ok (.putfield 287, 3) := by decide +kernel
theorem dX13_draw_16 : decode cX13_draw 16 = .ok (.aload_n 0, 1) := by decide +kernel
theorem dX13_draw_17 : decode cX13_draw 17 = .ok (.getfield 287, 3) := by decide +kernel
theorem dX13_draw_20 : decode cX13_draw 20 = .ok (.bipush 8, 2) := by decide +kernel
theorem dX13_draw_22 : decode cX13_draw 22 = .ok (.iushr, 1) := by decide +kernel
theorem dX13_draw_23 : decode cX13_draw 23 = .ok (.iload_n 1, 1) := by decide +kernel
theorem dX13_draw_24 : decode cX13_draw 24 = .ok (.irem, 1) := by decide +kernel
theorem dX13_draw_25 : decode cX13_draw 25 = .ok (.ireturn, 1) := by decide +kernel
theorem dX13_drawn_0 : decode cX13_drawn 0 = .ok (.aload_n 0, 1) := by decide +kernel
theorem dX13_drawn_1 : decode cX13_drawn 1 = .ok (.iconst 0, 1) := by decide +kernel
theorem dX13_drawn_2 : decode cX13_drawn 2 = .ok (.putfield 1, 3) := by decide +kernel
theorem dX13_drawn_5 : decode cX13_drawn 5 = .ok (.iload_n 1, 1) := by decide +kernel
theorem dX13_drawn_6 : decode cX13_drawn 6 = .ok (.iconst 1, 1) := by decide +kernel
theorem dX13_drawn_7 : decode cX13_drawn 7 = .ok (.bipush 24, 2) := by decide +kernel
theorem dX13_drawn_9 : decode cX13_drawn 9 = .ok (.invokestatic 204, 3) := by decide +kernel
theorem dX13_drawn_12 : decode cX13_drawn 12 = .ok (.ifCond .eq 12, 3) := by decide +kernel
theorem dX13_drawn_15 : decode cX13_drawn 15 = .ok (.aload_n 0, 1) := by decide +kernel
theorem dX13_drawn_16 : decode cX13_drawn 16 = .ok (.getfield 33, 3) := by decide +kernel
theorem dX13_drawn_19 : decode cX13_drawn 19 = .ok (.iconst 2, 1) := by decide +kernel
theorem dX13_drawn_20 : decode cX13_drawn 20 = .ok (.iaload, 1) := by decide +kernel
theorem dX13_drawn_21 : decode cX13_drawn 21 = .ok (.ifCond .ne 5, 3) := by decide +kernel
theorem dX13_drawn_24 : decode cX13_drawn 24 = .ok (.iconst (-1), 1) := by decide +kernel
theorem dX13_drawn_25 : decode cX13_drawn 25 = .ok (.ireturn, 1) := by decide +kernel
theorem dX13_drawn_26 : decode cX13_drawn 26 = .ok (.iconst 0, 1) := by decide +kernel
theorem dX13_drawn_27 : decode cX13_drawn 27 = .ok (.istore_n 3, 1) := by decide +kernel
theorem dX13_drawn_28 : decode cX13_drawn 28 = .ok (.iconst 0, 1) := by decide +kernel
theorem dX13_drawn_29 : decode cX13_drawn 29 = .ok (.istore 4, 2) := by decide +kernel
theorem dX13_drawn_31 : decode cX13_drawn 31 = .ok (.iload 4, 2) := by decide +kernel
theorem dX13_drawn_33 : decode cX13_drawn 33 = .ok (.aload_n 0, 1) := by decide +kernel
theorem dX13_drawn_34 : decode cX13_drawn 34 = .ok (.getfield 33, 3) := by decide +kernel
theorem dX13_drawn_37 : decode cX13_drawn 37 = .ok (.iconst 2, 1) := by decide +kernel
theorem dX13_drawn_38 : decode cX13_drawn 38 = .ok (.iaload, 1) := by decide +kernel
theorem dX13_drawn_39 : decode cX13_drawn 39 = .ok (.if_icmp .ge 22, 3) := by decide +kernel
theorem dX13_drawn_42 : decode cX13_drawn 42 = .ok (.iload_n 3, 1) := by decide +kernel
theorem dX13_drawn_43 : decode cX13_drawn 43 = .ok (.aload_n 0, 1) := by decide +kernel
theorem dX13_drawn_44 : decode cX13_drawn 44 = .ok (.getfield 33, 3) := by decide +kernel
theorem dX13_drawn_47 : decode cX13_drawn 47 = .ok (.bipush 48, 2) := by decide +kernel
theorem dX13_drawn_49 : decode cX13_drawn 49 = .ok (.iload 4, 2) := by decide +kernel
theorem dX13_drawn_51 : decode cX13_drawn 51 = .ok (.iadd, 1) := by decide +kernel
theorem dX13_drawn_52 : decode cX13_drawn 52 = .ok (.iaload, 1) := by decide +kernel
theorem dX13_drawn_53 : decode cX13_drawn 53 = .ok (.iadd, 1) := by decide +kernel
theorem dX13_drawn_54 : decode cX13_drawn 54 = .ok (.istore_n 3, 1) := by decide +kernel
theorem dX13_drawn_55 : decode cX13_drawn 55 = .ok (.iinc 4 1, 3) := by decide +kernel
theorem dX13_drawn_58 : decode cX13_drawn 58 = .ok (.goto (-27), 3) := by decide +kernel
theorem dX13_drawn_61 : decode cX13_drawn 61 = .ok (.aload_n 0, 1) := by decide +kernel
theorem dX13_drawn_62 : decode cX13_drawn 62 = .ok (.iload_n 2, 1) := by decide +kernel
theorem dX13_drawn_63 : decode cX13_drawn 63 = .ok (.putfield 287, 3) := by decide +kernel
theorem dX13_drawn_66 : decode cX13_drawn 66 = .ok (.iconst 0, 1) := by decide +kernel
theorem dX13_drawn_67 : decode cX13_drawn 67 = .ok (.istore 4, 2) := by decide +kernel
theorem dX13_drawn_69 : decode cX13_drawn 69 = .ok (.iload 4, 2) := by decide +kernel
theorem dX13_drawn_71 : decode cX13_drawn 71 = .ok (.iload_n 1, 1) := by decide +kernel
theorem dX13_drawn_72 : decode cX13_drawn 72 = .ok (.if_icmp .ge 65, 3) := by decide +kernel
theorem dX13_drawn_75 : decode cX13_drawn 75 = .ok (.aload_n 0, 1) := by decide +kernel
theorem dX13_drawn_76 : decode cX13_drawn 76 = .ok (.iload_n 3, 1) := by decide +kernel
theorem dX13_drawn_77 : decode cX13_drawn 77 = .ok (.invokevirtual 291, 3) := by decide +kernel
theorem dX13_drawn_80 : decode cX13_drawn 80 = .ok (.istore 5, 2) := by decide +kernel
theorem dX13_drawn_82 : decode cX13_drawn 82 = .ok (.iconst 0, 1) := by decide +kernel
theorem dX13_drawn_83 : decode cX13_drawn 83 = .ok (.istore 6, 2) := by decide +kernel
theorem dX13_drawn_85 : decode cX13_drawn 85 = .ok (.aload_n 0, 1) := by decide +kernel
theorem dX13_drawn_86 : decode cX13_drawn 86 = .ok (.getfield 33, 3) := by decide +kernel
theorem dX13_drawn_89 : decode cX13_drawn 89 = .ok (.bipush 48, 2) := by decide +kernel
theorem dX13_drawn_91 : decode cX13_drawn 91 = .ok (.iaload, 1) := by decide +kernel
theorem dX13_drawn_92 : decode cX13_drawn 92 = .ok (.istore 7, 2) := by decide +kernel
theorem dX13_drawn_94 : decode cX13_drawn 94 = .ok (.iload 7, 2) := by decide +kernel
theorem dX13_drawn_96 : decode cX13_drawn 96 = .ok (.iload 5, 2) := by decide +kernel
theorem dX13_drawn_98 : decode cX13_drawn 98 = .ok (.if_icmp .gt 24, 3) := by decide +kernel
theorem dX13_drawn_101 : decode cX13_drawn 101 = .ok (.iinc 6 1, 3) := by decide +kernel
theorem dX13_drawn_104 : decode cX13_drawn 104 = .ok (.iload 7, 2) := by decide +kernel
theorem dX13_drawn_106 : decode cX13_drawn 106 = .ok (.aload_n 0, 1) := by decide +kernel
theorem dX13_drawn_107 : decode cX13_drawn 107 = .ok (.getfield 33, 3) := by decide +kernel
theorem dX13_drawn_110 : decode cX13_drawn 110 = .ok (.bipush 48, 2) := by decide +kernel
theorem dX13_drawn_112 : decode cX13_drawn 112 = .ok (.iload 6, 2) := by decide +kernel
theorem dX13_drawn_114 : decode cX13_drawn 114 = .ok (.iadd, 1) := by decide +kernel
theorem dX13_drawn_115 : decode cX13_drawn 115 = .ok (.iaload, 1) := by decide +kernel
theorem dX13_drawn_116 : decode cX13_drawn 116 = .ok (.iadd, 1) := by decide +kernel
theorem dX13_drawn_117 : decode cX13_drawn 117 = .ok (.istore 7, 2) := by decide +kernel
theorem dX13_drawn_119 : decode cX13_drawn 119 = .ok (.goto (-25), 3) := by decide +kernel
theorem dX13_drawn_122 : decode cX13_drawn 122 = .ok (.aload_n 0, 1) := by decide +kernel
theorem dX13_drawn_123 : decode cX13_drawn 123 = .ok (.getfield 53, 3) := by decide +kernel
theorem dX13_drawn_126 : decode cX13_drawn 126 = .ok (.iload 4, 2) := by decide +kernel
theorem dX13_drawn_128 : decode cX13_drawn 128 = .ok (.iload 6, 2) := by decide +kernel
theorem dX13_drawn_130 : decode cX13_drawn 130 = .ok (.iastore, 1) := by decide +kernel
theorem dX13_drawn_131 : decode cX13_drawn 131 = .ok (.iinc 4 1, 3) := by decide +kernel
theorem dX13_drawn_134 : decode cX13_drawn 134 = .ok (.goto (-65), 3) := by decide +kernel
theorem dX13_drawn_137 : decode cX13_drawn 137 = .ok (.aload_n 0, 1) := by decide +kernel
theorem dX13_drawn_138 : decode cX13_drawn 138 = .ok (.aload_n 0, 1) := by decide +kernel
theorem dX13_drawn_139 : decode cX13_drawn 139 = .ok (.getfield 53, 3) := by decide +kernel
theorem dX13_drawn_142 : decode cX13_drawn 142 = .ok (.iload_n 1, 1) := by decide +kernel
theorem dX13_drawn_143 : decode cX13_drawn 143 = .ok (.invokevirtual 279, 3) := by decide +kernel
theorem dX13_drawn_146 : decode cX13_drawn 146 = .ok (.iload_n 1, 1) := by decide +kernel
theorem dX13_drawn_147 : decode cX13_drawn 147 = .ok (.ireturn, 1) := by decide +kernel
theorem dX13_isStruck_0 : decode cX13_isStruck 0 = .ok (.iload_n 1, 1) := by decide +kernel
theorem dX13_isStruck_1 : decode cX13_isStruck 1 = .ok (.ifCond .le 27, 3) := by decide +kernel
theorem dX13_isStruck_4 : decode cX13_isStruck 4 = .ok (.iload_n 2, 1) := by decide +kernel
theorem dX13_isStruck_5 : decode cX13_isStruck 5 = .ok (.iload_n 1, 1) := by decide +kernel
theorem dX13_isStruck_6 : decode cX13_isStruck 6 = .ok (.if_icmp .lt 22, 3) := by decide +kernel
theorem dX13_isStruck_9 : decode cX13_isStruck 9 = .ok (.iload_n 2, 1) := by decide +kernel
theorem dX13_isStruck_10 : decode cX13_isStruck 10 = .ok (.iload_n 1, 1) := by decide +kernel
theorem dX13_isStruck_11 : decode cX13_isStruck 11 = .ok (.isub, 1) := by decide +kernel
theorem dX13_isStruck_12 : decode cX13_isStruck 12 = .ok (.aload_n 0, 1) := by decide +kernel
theorem dX13_isStruck_13 : decode cX13_isStruck 13 = .ok (.getfield 294, 3) := by decide +kernel
theorem dX13_isStruck_16 : decode cX13_isStruck 16 = .ok (.irem, 1) := by decide +kernel
theorem dX13_isStruck_17 : decode cX13_isStruck 17 = .ok (.aload_n 0, 1) := by decide +kernel
theorem dX13_isStruck_18 : decode cX13_isStruck 18 = .ok (.getfield 297, 3) := by decide +kernel
theorem dX13_isStruck_21 : decode cX13_isStruck 21 = .ok (.if_icmp .ge 7, 3) := by decide +kernel
theorem dX13_isStruck_24 : decode cX13_isStruck 24 = .ok (.iconst 1, 1) := by decide +kernel
theorem dX13_isStruck_25 : decode cX13_isStruck 25 = .ok (.goto 4, 3) := by decide +kernel
theorem dX13_isStruck_28 : decode cX13_isStruck 28 = .ok (.iconst 0, 1) := by decide +kernel
theorem dX13_isStruck_29 : decode cX13_isStruck 29 = .ok (.ireturn, 1) := by decide +kernel
theorem dX13_leave_0 : decode cX13_leave 0 = .ok (.iconst 0, 1) := by decide +kernel
theorem dX13_leave_1 : decode cX13_leave 1 = .ok (.istore 4, 2) := by decide +kernel
theorem dX13_leave_3 : decode cX13_leave 3 = .ok (.iconst 0, 1) := by decide +kernel
theorem dX13_leave_4 : decode cX13_leave 4 = .ok (.istore 5, 2) := by decide +kernel
theorem dX13_leave_6 : decode cX13_leave 6 = .ok (.iload 5, 2) := by decide +kernel
theorem dX13_leave_8 : decode cX13_leave 8 = .ok (.iload_n 2, 1) := by decide +kernel
theorem dX13_leave_9 : decode cX13_leave 9 = .ok (.if_icmp .ge 38, 3) := by decide +kernel
theorem dX13_leave_12 : decode cX13_leave 12 = .ok (.aload_n 0, 1) := by decide +kernel
theorem dX13_leave_13 : decode cX13_leave 13 = .ok (.iload_n 3, 1) := by decide +kernel
theorem dX13_leave_14 : decode cX13_leave 14 = .ok (.iload 5, 2) := by decide +kernel
theorem dX13_leave_16 : decode cX13_leave 16 = .ok (.iconst 1, 1) := by decide +kernel
theorem dX13_leave_17 : decode cX13_leave 17 = .ok (.iadd, 1) := by decide +kernel
theorem dX13_leave_18 : decode cX13_leave 18 = .ok (.invokevirtual 300, 3) := by decide +kernel
theorem dX13_leave_21 : decode cX13_leave 21 = .ok (.ifCond .eq 6, 3) := by decide +kernel
theorem dX13_leave_24 : decode cX13_leave 24 = .ok (.goto 17, 3) := by decide +kernel
theorem dX13_leave_27 : decode cX13_leave 27 = .ok (.aload_n 0, 1) := by decide +kernel
theorem dX13_leave_28 : decode cX13_leave 28 = .ok (.getfield 50, 3) := by decide +kernel
theorem dX13_leave_31 : decode cX13_leave 31 = .ok (.iload 4, 2) := by decide +kernel
theorem dX13_leave_33 : decode cX13_leave 33 = .ok (.aload_n 1, 1) := by decide +kernel
theorem dX13_leave_34 : decode cX13_leave 34 = .ok (.iload 5, 2) := by decide +kernel
theorem dX13_leave_36 : decode cX13_leave 36 = .ok (.iaload, 1) := by decide +kernel
theorem dX13_leave_37 : decode cX13_leave 37 = .ok (.iastore, 1) := by decide +kernel
theorem dX13_leave_38 : decode cX13_leave 38 = .ok (.iinc 4 1, 3) := by decide +kernel
theorem dX13_leave_41 : decode cX13_leave 41 = .ok (.iinc 5 1, 3) := by decide +kernel
theorem dX13_leave_44 : decode cX13_leave 44 = .ok (.goto (-38), 3) := by decide +kernel
theorem dX13_leave_47 : decode cX13_leave 47 = .ok (.aload_n 0, 1) := by decide +kernel
theorem dX13_leave_48 : decode cX13_leave 48 = .ok (.iload 4, 2) := by decide +kernel
theorem dX13_leave_50 : decode cX13_leave 50 = .ok (.putfield 303, 3) := by decide +kernel
theorem dX13_leave_53 : decode cX13_leave 53 = .ok (.return_, 1) := by decide +kernel
theorem dX13_isBeginning_0 : decode cX13_isBeginning 0 = .ok (.iload_n 1, 1) := by decide +kernel
theorem dX13_isBeginning_1 : decode cX13_isBeginning 1 = .ok (.iconst 0, 1) := by decide +kernel
theorem dX13_isBeginning_2 : decode cX13_isBeginning 2 = .ok (.aload_n 0, 1) := by decide +kernel
theorem dX13_isBeginning_3 : decode cX13_isBeginning 3 = .ok (.getfield 33, 3) := by decide +kernel
theorem dX13_isBeginning_6 : decode cX13_isBeginning 6 = .ok (.iconst 3, 1) := by decide +kernel
theorem dX13_isBeginning_7 : decode cX13_isBeginning 7 = .ok (.iaload, 1) := by decide +kernel
theorem dX13_isBeginning_8 : decode cX13_isBeginning 8 = .ok (.invokestatic 204, 3) := by decide +kernel
theorem dX13_isBeginning_11 : decode cX13_isBeginning 11 = .ok (.ireturn, 1) := by decide +kernel
theorem dX13_leaveText_0 : decode cX13_leaveText 0 = .ok (.aload_n 0, 1) := by decide +kernel
theorem dX13_leaveText_1 : decode cX13_leaveText 1 = .ok (.aload_n 0, 1) := by decide +kernel
theorem dX13_leaveText_2 : decode cX13_leaveText 2 = .ok (.getfield 33, 3) := by decide +kernel
theorem dX13_leaveText_5 : decode cX13_leaveText 5 = .ok (.iconst 3, 1) := by decide +kernel
theorem dX13_leaveText_6 : decode cX13_leaveText 6 = .ok (.iaload, 1) := by decide +kernel
theorem dX13_leaveText_7 : decode cX13_leaveText 7 = .ok (.putfield 294, 3) := by decide +kernel
theorem dX13_leaveText_10 : decode cX13_leaveText 10 = .ok (.aload_n 0, 1) := by decide +kernel
theorem dX13_leaveText_11 : decode cX13_leaveText 11 = .ok (.aload_n 0, 1) := by decide +kernel
theorem dX13_leaveText_12 : decode cX13_leaveText 12 = .ok (.getfield 33, 3) := by decide +kernel
theorem dX13_leaveText_15 : decode cX13_leaveText 15 = .ok (.iconst 4, 1) := by decide +kernel
theorem dX13_leaveText_16 : decode cX13_leaveText 16 = .ok (.iaload, 1) := by decide +kernel
theorem dX13_leaveText_17 : decode cX13_leaveText 17 = .ok (.putfield 297, 3) := by decide +kernel
theorem dX13_leaveText_20 : decode cX13_leaveText 20 = .ok (.iconst 0, 1) := by decide +kernel
theorem dX13_leaveText_21 : decode cX13_leaveText 21 = .ok (.istore_n 2, 1) := by decide +kernel
theorem dX13_leaveText_22 : decode cX13_leaveText 22 = .ok (.iload_n 2, 1) := by decide +kernel
theorem dX13_leaveText_23 : decode cX13_leaveText 23 = .ok (.aload_n 0, 1) := by decide +kernel
theorem dX13_leaveText_24 : decode cX13_leaveText 24 = .ok (.getfield 33, 3) := by decide +kernel
theorem dX13_leaveText_27 : decode cX13_leaveText 27 = .ok (.sipush 437, 3) := by decide +kernel
theorem dX13_leaveText_30 : decode cX13_leaveText 30 = .ok (.iaload, 1) := by decide +kernel
theorem dX13_leaveText_31 : decode cX13_leaveText 31 = .ok (.if_icmp .ge 25, 3) := by decide +kernel
theorem dX13_leaveText_34 : decode cX13_leaveText 34 = .ok (.aload_n 0, 1) := by decide +kernel
theorem dX13_leaveText_35 : decode cX13_leaveText 35 = .ok (.getfield 47, 3) := by decide +kernel
theorem dX13_leaveText_38 : decode cX13_leaveText 38 = .ok (.iload_n 2, 1) := by decide +kernel
theorem dX13_leaveText_39 : decode cX13_leaveText 39 = .ok (.aload_n 0, 1) := by decide +kernel
theorem dX13_leaveText_40 : decode cX13_leaveText 40 = .ok (.getfield 33, 3) := by decide +kernel
theorem dX13_leaveText_43 : decode cX13_leaveText 43 = .ok (.sipush 438, 3) := by decide +kernel
theorem dX13_leaveText_46 : decode cX13_leaveText 46 = .ok (.iload_n 2, 1) := by decide +kernel
theorem dX13_leaveText_47 : decode cX13_leaveText 47 = .ok (.iadd, 1) := by decide +kernel
theorem dX13_leaveText_48 : decode cX13_leaveText 48 = .ok (.iaload, 1) := by decide +kernel
theorem dX13_leaveText_49 : decode cX13_leaveText 49 = .ok (.iastore, 1) := by decide +kernel
theorem dX13_leaveText_50 : decode cX13_leaveText 50 = .ok (.iinc 2 1, 3) := by decide +kernel
theorem dX13_leaveText_53 : decode cX13_leaveText 53 = .ok (.goto (-31), 3) := by decide +kernel
theorem dX13_leaveText_56 : decode cX13_leaveText 56 = .ok (.aload_n 0, 1) := by decide +kernel
theorem dX13_leaveText_57 : decode cX13_leaveText 57 = .ok (.aload_n 0, 1) := by decide +kernel
theorem dX13_leaveText_58 : decode cX13_leaveText 58 = .ok (.getfield 47, 3) := by decide +kernel
theorem dX13_leaveText_61 : decode cX13_leaveText 61 = .ok (.aload_n 0, 1) := by decide +kernel
theorem dX13_leaveText_62 : decode cX13_leaveText 62 = .ok (.getfield 33, 3) := by decide +kernel
theorem dX13_leaveText_65 : decode cX13_leaveText 65 = .ok (.sipush 437, 3) := by decide +kernel
theorem dX13_leaveText_68 : decode cX13_leaveText 68 = .ok (.iaload, 1) := by decide +kernel
theorem dX13_leaveText_69 : decode cX13_leaveText 69 = .ok (.iload_n 1, 1) := by decide +kernel
theorem dX13_leaveText_70 : decode cX13_leaveText 70 = .ok (.invokevirtual 306, 3) := by decide +kernel
theorem dX13_leaveText_73 : decode cX13_leaveText 73 = .ok (.return_, 1) := by decide +kernel
theorem dX13_left_0 : decode cX13_left 0 = .ok (.aload_n 0, 1) := by decide +kernel
theorem dX13_left_1 : decode cX13_left 1 = .ok (.iconst 0, 1) := by decide +kernel
theorem dX13_left_2 : decode cX13_left 2 = .ok (.putfield 1, 3) := by decide +kernel
theorem dX13_left_5 : decode cX13_left 5 = .ok (.aload_n 0, 1) := by decide +kernel
theorem dX13_left_6 : decode cX13_left 6 = .ok (.iload_n 1, 1) := by decide +kernel
theorem dX13_left_7 : decode cX13_left 7 = .ok (.invokevirtual 310, 3) := by decide +kernel
theorem dX13_left_10 : decode cX13_left 10 = .ok (.ifCond .ne 5, 3) := by decide +kernel
theorem dX13_left_13 : decode cX13_left 13 = .ok (.iconst (-1), 1) := by decide +kernel
theorem dX13_left_14 : decode cX13_left 14 = .ok (.ireturn, 1) := by decide +kernel
theorem dX13_left_15 : decode cX13_left 15 = .ok (.aload_n 0, 1) := by decide +kernel
theorem dX13_left_16 : decode cX13_left 16 = .ok (.iload_n 1, 1) := by decide +kernel
theorem dX13_left_17 : decode cX13_left 17 = .ok (.invokevirtual 313, 3) := by decide +kernel
theorem dX13_left_20 : decode cX13_left 20 = .ok (.aload_n 0, 1) := by decide +kernel
theorem dX13_left_21 : decode cX13_left 21 = .ok (.getfield 303, 3) := by decide +kernel
theorem dX13_left_24 : decode cX13_left 24 = .ok (.ireturn, 1) := by decide +kernel
theorem dX13_leftAt_0 : decode cX13_leftAt 0 = .ok (.aload_n 0, 1) := by decide +kernel
theorem dX13_leftAt_1 : decode cX13_leftAt 1 = .ok (.iconst 0, 1) := by decide +kernel
theorem dX13_leftAt_2 : decode cX13_leftAt 2 = .ok (.putfield 1, 3) := by decide +kernel
theorem dX13_leftAt_5 : decode cX13_leftAt 5 = .ok (.aload_n 0, 1) := by decide +kernel
theorem dX13_leftAt_6 : decode cX13_leftAt 6 = .ok (.iload_n 1, 1) := by decide +kernel
theorem dX13_leftAt_7 : decode cX13_leftAt 7 = .ok (.invokevirtual 310, 3) := by decide +kernel
theorem dX13_leftAt_10 : decode cX13_leftAt 10 = .ok (.ifCond .ne 5, 3) := by decide +kernel
theorem dX13_leftAt_13 : decode cX13_leftAt 13 = .ok (.iconst (-1), 1) := by decide +kernel
theorem dX13_leftAt_14 : decode cX13_leftAt 14 = .ok (.ireturn, 1) := by decide +kernel
theorem dX13_leftAt_15 : decode cX13_leftAt 15 = .ok (.aload_n 0, 1) := by decide +kernel
theorem dX13_leftAt_16 : decode cX13_leftAt 16 = .ok (.iload_n 1, 1) := by decide +kernel
theorem dX13_leftAt_17 : decode cX13_leftAt 17 = .ok (.invokevirtual 313, 3) := by decide +kernel
theorem dX13_leftAt_20 : decode cX13_leftAt 20 = .ok (.iload_n 2, 1) := by decide +kernel
theorem dX13_leftAt_21 : decode cX13_leftAt 21 = .ok (.iconst 0, 1) := by decide +kernel
theorem dX13_leftAt_22 : decode cX13_leftAt 22 = .ok (.aload_n 0, 1) := by decide +kernel
theorem dX13_leftAt_23 : decode cX13_leftAt 23 = .ok (.getfield 303, 3) := by decide +kernel
theorem dX13_leftAt_26 : decode cX13_leftAt 26 = .ok (.iconst 1, 1) := by decide +kernel
theorem dX13_leftAt_27 : decode cX13_leftAt 27 = .ok (.isub, 1) := by decide +kernel
theorem dX13_leftAt_28 : decode cX13_leftAt 28 = .ok (.invokestatic 204, 3) := by decide +kernel
theorem dX13_leftAt_31 : decode cX13_leftAt 31 = .ok (.ifCond .eq 12, 3) := by decide +kernel
theorem dX13_leftAt_34 : decode cX13_leftAt 34 = .ok (.aload_n 0, 1) := by decide +kernel
theorem dX13_leftAt_35 : decode cX13_leftAt 35 = .ok (.getfield 50, 3) := by decide +kernel
theorem dX13_leftAt_38 : decode cX13_leftAt 38 = .ok (.iload_n 2, 1) := by decide +kernel
theorem dX13_leftAt_39 : decode cX13_leftAt 39 = .ok (.iaload, 1) := by decide +kernel
theorem dX13_leftAt_40 : decode cX13_leftAt 40 = .ok (.goto 4, 3) := by decide +kernel
theorem dX13_leftAt_43 : decode cX13_leftAt 43 = .ok (.iconst (-1), 1) := by decide +kernel
theorem dX13_leftAt_44 : decode cX13_leftAt 44 = .ok (.ireturn, 1) := by decide +kernel
theorem dX13_settle_0 : decode cX13_settle 0 = .ok (.aload_n 0, 1) := by decide +kernel
theorem dX13_settle_1 : decode cX13_settle 1 = .ok (.aload_n 0, 1) := by decide +kernel
theorem dX13_settle_2 : decode cX13_settle 2 = .ok (.getfield 33, 3) := by decide +kernel
theorem dX13_settle_5 : decode cX13_settle 5 = .ok (.iconst 3, 1) := by decide +kernel
theorem dX13_settle_6 : decode cX13_settle 6 = .ok (.iaload, 1) := by decide +kernel
theorem dX13_settle_7 : decode cX13_settle 7 = .ok (.putfield 294, 3) := by decide +kernel
theorem dX13_settle_10 : decode cX13_settle 10 = .ok (.aload_n 0, 1) := by decide +kernel
theorem dX13_settle_11 : decode cX13_settle 11 = .ok (.aload_n 0, 1) := by decide +kernel
theorem dX13_settle_12 : decode cX13_settle 12 = .ok (.getfield 33, 3) := by decide +kernel
theorem dX13_settle_15 : decode cX13_settle 15 = .ok (.iconst 4, 1) := by decide +kernel
theorem dX13_settle_16 : decode cX13_settle 16 = .ok (.iaload, 1) := by decide +kernel
theorem dX13_settle_17 : decode cX13_settle 17 = .ok (.putfield 297, 3) := by decide +kernel
theorem dX13_settle_20 : decode cX13_settle 20 = .ok (.aload_n 0, 1) := by decide +kernel
theorem dX13_settle_21 : decode cX13_settle 21 = .ok (.getfield 65, 3) := by decide +kernel
theorem dX13_settle_24 : decode cX13_settle 24 = .ok (.ifCond .ne 4, 3) := by decide +kernel
theorem dX13_settle_27 : decode cX13_settle 27 = .ok (.return_, 1) := by decide +kernel
theorem dX13_settle_28 : decode cX13_settle 28 = .ok (.aload_n 0, 1) := by decide +kernel
theorem dX13_settle_29 : decode cX13_settle 29 = .ok (.iconst 0, 1) := by decide +kernel
theorem dX13_settle_30 : decode cX13_settle 30 = .ok (.putfield 65, 3) := by decide +kernel
theorem dX13_settle_33 : decode cX13_settle 33 = .ok (.iconst 0, 1) := by decide +kernel
theorem dX13_settle_34 : decode cX13_settle 34 = .ok (.istore_n 1, 1) := by decide +kernel
theorem dX13_settle_35 : decode cX13_settle 35 = .ok (.iload_n 1, 1) := by decide +kernel
theorem dX13_settle_36 : decode cX13_settle 36 = .ok (.bipush 25, 2) := by decide +kernel
theorem dX13_settle_38 : decode cX13_settle 38 = .ok (.if_icmp .ge 24, 3) := by decide +kernel
theorem dX13_settle_41 : decode cX13_settle 41 = .ok (.aload_n 0, 1) := by decide +kernel
theorem dX13_settle_42 : decode cX13_settle 42 = .ok (.getfield 62, 3) := by decide +kernel
theorem dX13_settle_45 : decode cX13_settle 45 = .ok (.iload_n 1, 1) := by decide +kernel
theorem dX13_settle_46 : decode cX13_settle 46 = .ok (.aload_n 0, 1) := by decide +kernel
theorem dX13_settle_47 : decode cX13_settle 47 = .ok (.getfield 33, 3) := by decide +kernel
theorem dX13_settle_50 : decode cX13_settle 50 = .ok (.bipush 15, 2) := by decide +kernel
theorem dX13_settle_52 : decode cX13_settle 52 = .ok (.iload_n 1, 1) := by decide +kernel
theorem dX13_settle_53 : decode cX13_settle 53 = .ok (.iadd, 1) := by decide +kernel
theorem dX13_settle_54 : decode cX13_settle 54 = .ok (.iaload, 1) := by decide +kernel
theorem dX13_settle_55 : decode cX13_settle 55 = .ok (.iastore, 1) := by decide +kernel
theorem dX13_settle_56 : decode cX13_settle 56 = .ok (.iinc 1 1, 3) := by decide +kernel
theorem dX13_settle_59 : decode cX13_settle 59 = .ok (.goto (-24), 3) := by decide +kernel
theorem dX13_settle_62 : decode cX13_settle 62 = .ok (.iconst 0, 1) := by decide +kernel
theorem dX13_settle_63 : decode cX13_settle 63 = .ok (.istore_n 1, 1) := by decide +kernel
theorem dX13_settle_64 : decode cX13_settle 64 = .ok (.iload_n 1, 1) := by decide +kernel
theorem dX13_settle_65 : decode cX13_settle 65 = .ok (.bipush 40, 2) := by decide +kernel
theorem dX13_settle_67 : decode cX13_settle 67 = .ok (.if_icmp .ge 99, 3) := by decide +kernel
theorem dX13_settle_70 : decode cX13_settle 70 = .ok (.aload_n 0, 1) := by decide +kernel
theorem dX13_settle_71 : decode cX13_settle 71 = .ok (.getfield 59, 3) := by decide +kernel
theorem dX13_settle_74 : decode cX13_settle 74 = .ok (.iload_n 1, 1) := by decide +kernel
theorem dX13_settle_75 : decode cX13_settle 75 = .ok (.aload_n 0, 1) := by decide +kernel
theorem dX13_settle_76 : decode cX13_settle 76 = .ok (.getfield 33, 3) := by decide +kernel
theorem dX13_settle_79 : decode cX13_settle 79 = .ok (.bipush 72, 2) := by decide +kernel
theorem dX13_settle_81 : decode cX13_settle 81 = .ok (.iload_n 1, 1) := by decide +kernel
theorem dX13_settle_82 : decode cX13_settle 82 = .ok (.iadd, 1) := by decide +kernel
theorem dX13_settle_83 : decode cX13_settle 83 = .ok (.iaload, 1) := by decide +kernel
theorem dX13_settle_84 : decode cX13_settle 84 = .ok (.iastore, 1) := by decide +kernel
theorem dX13_settle_85 : decode cX13_settle 85 = .ok (.iconst 0, 1) := by decide +kernel
theorem dX13_settle_86 : decode cX13_settle 86 = .ok (.istore_n 2, 1) := by decide +kernel
theorem dX13_settle_87 : decode cX13_settle 87 = .ok (.iload_n 2, 1) := by decide +kernel
theorem dX13_settle_88 : decode cX13_settle 88 = .ok (.sipush 256, 3) := by decide +kernel
theorem dX13_settle_91 : decode cX13_settle 91 = .ok (.if_icmp .ge 69, 3) := by decide +kernel
theorem dX13_settle_94 : decode cX13_settle 94 = .ok (.iconst 0, 1) := by decide +kernel
theorem dX13_settle_95 : decode cX13_settle 95 = .ok (.istore_n 3, 1) := by decide +kernel
theorem dX13_settle_96 : decode cX13_settle 96 = .ok (.iconst 0, 1) := by decide +kernel
theorem dX13_settle_97 : decode cX13_settle 97 = .ok (.istore 4, 2) := by decide +kernel
theorem dX13_settle_99 : decode cX13_settle 99 = .ok (.iload 4, 2) := by decide +kernel
theorem dX13_settle_101 : decode cX13_settle 101 = .ok (.bipush 8, 2) := by decide +kernel
theorem dX13_settle_103 : decode cX13_settle 103 = .ok (.if_icmp .ge 38, 3) := by decide +kernel
theorem dX13_settle_106 : decode cX13_settle 106 = .ok (.iload_n 2, 1) := by decide +kernel
theorem dX13_settle_107 : decode cX13_settle 107 = .ok (.iload 4, 2) := by decide +kernel
theorem dX13_settle_109 : decode cX13_settle 109 = .ok (.invokestatic 257, 3) := by decide +kernel
theorem dX13_settle_112 : decode cX13_settle 112 = .ok (.ifCond .eq 23, 3) := by decide +kernel
theorem dX13_settle_115 : decode cX13_settle 115 = .ok (.iload_n 3, 1) := by decide +kernel
theorem dX13_settle_116 : decode cX13_settle 116 = .ok (.iconst 1, 1) := by decide +kernel
theorem dX13_settle_117 : decode cX13_settle 117 = .ok (.aload_n 0, 1) := by decide +kernel
theorem dX13_settle_118 : decode cX13_settle 118 = .ok (.getfield 33, 3) := by decide +kernel
theorem dX13_settle_121 : decode cX13_settle 121 = .ok (.bipush 112, 2) := by decide +kernel
theorem dX13_settle_123 : decode cX13_settle 123 = .ok (.bipush 8, 2) := by decide +kernel
theorem dX13_settle_125 : decode cX13_settle 125 = .ok (.iload_n 1, 1) := by decide +kernel
theorem dX13_settle_126 : decode cX13_settle 126 = .ok (.imul, 1) := by decide +kernel
theorem dX13_settle_127 : decode cX13_settle 127 = .ok (.iadd, 1) := by decide +kernel
theorem dX13_settle_128 : decode cX13_settle 128 = .ok (.iload 4, 2) := by decide +kernel
theorem dX13_settle_130 : decode cX13_settle 130 = .ok (.iadd, 1) := by decide +kernel
theorem dX13_settle_131 : decode cX13_settle 131 = .ok (.iaload, 1) := by decide +kernel
theorem dX13_settle_132 : decode cX13_settle 132 = .ok (.ishl, 1) := by decide +kernel
theorem dX13_settle_133 : decode cX13_settle 133 = .ok (.ior, 1) := by decide +kernel
theorem dX13_settle_134 : decode cX13_settle 134 = .ok (.istore_n 3, 1) := by decide +kernel
theorem dX13_settle_135 : decode cX13_settle 135 = .ok (.iinc 4 1, 3) := by decide +kernel
theorem dX13_settle_138 : decode cX13_settle 138 = .ok (.goto (-39), 3) := by decide +kernel
theorem dX13_settle_141 : decode cX13_settle 141 = .ok (.aload_n 0, 1) := by decide +kernel
theorem dX13_settle_142 : decode cX13_settle 142 = .ok (.getfield 56, 3) := by decide +kernel
theorem dX13_settle_145 : decode cX13_settle 145 = .ok (.sipush 256, 3) := by decide +kernel
theorem dX13_settle_148 : decode cX13_settle 148 = .ok (.iload_n 1, 1) := by decide +kernel
theorem dX13_settle_149 : decode cX13_settle 149 = .ok (.imul, 1) := by decide +kernel
theorem dX13_settle_150 : decode cX13_settle 150 = .ok (.iload_n 2, 1) := by decide +kernel
theorem dX13_settle_151 : decode cX13_settle 151 = .ok (.iadd, 1) := by decide +kernel
theorem dX13_settle_152 : decode cX13_settle 152 = .ok (.iload_n 3, 1) := by decide +kernel
theorem dX13_settle_153 : decode cX13_settle 153 = .ok (.iastore, 1) := by decide +kernel
theorem dX13_settle_154 : decode cX13_settle 154 = .ok (.iinc 2 1, 3) := by decide +kernel
theorem dX13_settle_157 : decode cX13_settle 157 = .ok (.goto (-70), 3) := by decide +kernel
theorem dX13_settle_160 : decode cX13_settle 160 = .ok (.iinc 1 1, 3) := by decide +kernel
theorem dX13_settle_163 : decode cX13_settle 163 = .ok (.goto (-99), 3) := by decide +kernel
theorem dX13_settle_166 : decode cX13_settle 166 = .ok (.return_, 1) := by decide +kernel
theorem dX13_comes_0 : decode cX13_comes 0 = .ok (.lconst 0, 1) := by decide +kernel
theorem dX13_comes_1 : decode cX13_comes 1 = .ok (.lstore 4, 2) := by decide +kernel
theorem dX13_comes_3 : decode cX13_comes 3 = .ok (.iconst 0, 1) := by decide +kernel
theorem dX13_comes_4 : decode cX13_comes 4 = .ok (.istore 6, 2) := by decide +kernel
theorem dX13_comes_6 : decode cX13_comes 6 = .ok (.iload 6, 2) := by decide +kernel
theorem dX13_comes_8 : decode cX13_comes 8 = .ok (.aload_n 0, 1) := by decide +kernel
theorem dX13_comes_9 : decode cX13_comes 9 = .ok (.getfield 33, 3) := by decide +kernel
theorem dX13_comes_12 : decode cX13_comes 12 = .ok (.iconst 0, 1) := by decide +kernel
theorem dX13_comes_13 : decode cX13_comes 13 = .ok (.iaload, 1) := by decide +kernel
theorem dX13_comes_14 : decode cX13_comes 14 = .ok (.if_icmp .ge 139, 3) := by decide +kernel
theorem dX13_comes_17 : decode cX13_comes 17 = .ok (.aload_n 0, 1) := by decide +kernel
theorem dX13_comes_18 : decode cX13_comes 18 = .ok (.getfield 59, 3) := by decide +kernel
theorem dX13_comes_21 : decode cX13_comes 21 = .ok (.iconst 5, 1) := by decide +kernel
theorem dX13_comes_22 : decode cX13_comes 22 = .ok (.iload_n 3, 1) := by decide +kernel
theorem dX13_comes_23 : decode cX13_comes 23 = .ok (.imul, 1) := by decide +kernel
theorem dX13_comes_24 : decode cX13_comes 24 = .ok (.iload 6, 2) := by decide +kernel
theorem dX13_comes_26 : decode cX13_comes 26 = .ok (.iadd, 1) := by decide +kernel
theorem dX13_comes_27 : decode cX13_comes 27 = .ok (.iaload, 1) := by decide +kernel
theorem dX13_comes_28 : decode cX13_comes 28 = .ok (.ifCond .ne 6, 3) := by decide +kernel
theorem dX13_comes_31 : decode cX13_comes 31 = .ok (.goto 116, 3) := by decide +kernel
theorem dX13_comes_34 : decode cX13_comes 34 = .ok (.iconst 0, 1) := by decide +kernel
theorem dX13_comes_35 : decode cX13_comes 35 = .ok (.istore 7, 2) := by decide +kernel
theorem dX13_comes_37 : decode cX13_comes 37 = .ok (.lload_n 1, 1) := by decide +kernel
theorem dX13_comes_38 : decode cX13_comes 38 = .ok (.ldc2_w 316, 3) := by decide +kernel
theorem dX13_comes_41 : decode cX13_comes 41 = .ok (.lcmp, 1) := by decide +kernel
theorem dX13_comes_42 : decode cX13_comes 42 = .ok (.ifCond .ne 14, 3) := by decide +kernel
theorem dX13_comes_45 : decode cX13_comes 45 = .ok (.aload_n 0, 1) := by decide +kernel
theorem dX13_comes_46 : decode cX13_comes 46 = .ok (.getfield 33, 3) := by decide +kernel
theorem dX13_comes_49 : decode cX13_comes 49 = .ok (.iconst 5, 1) := by decide +kernel
theorem dX13_comes_50 : decode cX13_comes 50 = .ok (.iload 6, 2) := by decide +kernel
theorem dX13_comes_52 : decode cX13_comes 52 = .ok (.iadd, 1) := by decide +kernel
theorem dX13_comes_53 : decode cX13_comes 53 = .ok (.iaload, 1) := by decide +kernel
theorem dX13_comes_54 : decode cX13_comes 54 = .ok (.istore 7, 2) := by decide +kernel
theorem dX13_comes_56 : decode cX13_comes 56 = .ok (.iconst 0, 1) := by decide +kernel
theorem dX13_comes_57 : decode cX13_comes 57 = .ok (.istore 8, 2) := by decide +kernel
theorem dX13_comes_59 : decode cX13_comes 59 = .ok (.iload 8, 2) := by decide +kernel
theorem dX13_comes_61 : decode cX13_comes 61 = .ok (.aload_n 0, 1) := by decide +kernel
theorem dX13_comes_62 : decode cX13_comes 62 = .ok (.getfield 33, 3) := by decide +kernel
theorem dX13_comes_65 : decode cX13_comes 65 = .ok (.iconst 0, 1) := by decide +kernel
theorem dX13_comes_66 : decode cX13_comes 66 = .ok (.iaload, 1) := by decide +kernel
theorem dX13_comes_67 : decode cX13_comes 67 = .ok (.if_icmp .ge 50, 3) := by decide +kernel
theorem dX13_comes_70 : decode cX13_comes 70 = .ok (.lload_n 1, 1) := by decide +kernel
theorem dX13_comes_71 : decode cX13_comes 71 = .ok (.ldc2_w 316, 3) := by decide +kernel
theorem dX13_comes_74 : decode cX13_comes 74 = .ok (.lcmp, 1) := by decide +kernel
theorem dX13_comes_75 : decode cX13_comes 75 = .ok (.ifCond .eq 42, 3) := by decide +kernel
theorem dX13_comes_78 : decode cX13_comes 78 = .ok (.aload_n 0, 1) := by decide +kernel
theorem dX13_comes_79 : decode cX13_comes 79 = .ok (.getfield 62, 3) := by decide +kernel
theorem dX13_comes_82 : decode cX13_comes 82 = .ok (.iconst 5, 1) := by decide +kernel
theorem dX13_comes_83 : decode cX13_comes 83 = .ok (.iload 8, 2) := by decide +kernel
theorem dX13_comes_85 : decode cX13_comes 85 = .ok (.imul, 1) := by decide +kernel
theorem dX13_comes_86 : decode cX13_comes 86 = .ok (.iload 6, 2) := by decide +kernel
theorem dX13_comes_88 : decode cX13_comes 88 = .ok (.iadd, 1) := by decide +kernel
theorem dX13_comes_89 : decode cX13_comes 89 = .ok (.iaload, 1) := by decide +kernel
theorem dX13_comes_90 : decode cX13_comes 90 = .ok (.iconst 1, 1) := by decide +kernel
theorem dX13_comes_91 : decode cX13_comes 91 = .ok (.if_icmp .ne 20, 3) := by decide +kernel
theorem dX13_comes_94 : decode cX13_comes 94 = .ok (.iload 7, 2) := by decide +kernel
theorem dX13_comes_96 : decode cX13_comes 96 = .ok (.lload_n 1, 1) := by decide +kernel
theorem dX13_comes_97 : decode cX13_comes 97 = .ok (.bipush 8, 2) := by decide +kernel
theorem dX13_comes_99 : decode cX13_comes 99 = .ok (.iload 8, 2) := by decide +kernel
theorem dX13_comes_101 : decode cX13_comes 101 = .ok (.imul, 1) := by decide +kernel
theorem dX13_comes_102 : decode cX13_comes 102 = .ok (.lshr, 1) := by decide +kernel
theorem dX13_comes_103 : decode cX13_comes 103 = .ok (.ldc2_w 318, 3) := by decide +kernel
theorem dX13_comes_106 : decode cX13_comes 106 = .ok (.land, 1) := by decide +kernel
theorem dX13_comes_107 : decode cX13_comes 107 = .ok (.l2i, 1) := by decide +kernel
theorem dX13_comes_108 : decode cX13_comes 108 = .ok (.ior, 1) := by decide +kernel
theorem dX13_comes_109 : decode cX13_comes 109 = .ok (.istore 7, 2) := by decide +kernel
theorem dX13_comes_111 : decode cX13_comes 111 = .ok (.iinc 8 1, 3) := by decide +kernel
theorem dX13_comes_114 : decode cX13_comes 114 = .ok (.goto (-55), 3) := by decide +kernel
theorem dX13_comes_117 : decode cX13_comes 117 = .ok (.lload 4, 2) := by decide +kernel
theorem dX13_comes_119 : decode cX13_comes 119 = .ok (.aload_n 0, 1) := by decide +kernel
theorem dX13_comes_120 : decode cX13_comes 120 = .ok (.getfield 56, 3) := by decide +kernel
theorem dX13_comes_123 : decode cX13_comes 123 = .ok (.sipush 256, 3) := by decide +kernel
theorem dX13_comes_126 : decode cX13_comes 126 = .ok (.iconst 5, 1) := by decide +kernel
theorem dX13_comes_127 : decode cX13_comes 127 = .ok (.iload_n 3, 1) := by decide +kernel
theorem dX13_comes_128 : decode cX13_comes 128 = .ok (.imul, 1) := by decide +kernel
theorem dX13_comes_129 : decode cX13_comes 129 = .ok (.iload 6, 2) := by decide +kernel
theorem dX13_comes_131 : decode cX13_comes 131 = .ok (.iadd, 1) := by decide +kernel
theorem dX13_comes_132 : decode cX13_comes 132 = .ok (.imul, 1) := by decide +kernel
theorem dX13_comes_133 : decode cX13_comes 133 = .ok (.iload 7, 2) := by decide +kernel
theorem dX13_comes_135 : decode cX13_comes 135 = .ok (.iadd, 1) := by decide +kernel
theorem dX13_comes_136 : decode cX13_comes 136 = .ok (.iaload, 1) := by decide +kernel
theorem dX13_comes_137 : decode cX13_comes 137 = .ok (.i2l, 1) := by decide +kernel
theorem dX13_comes_138 : decode cX13_comes 138 = .ok (.bipush 8, 2) := by decide +kernel
theorem dX13_comes_140 : decode cX13_comes 140 = .ok (.iload 6, 2) := by decide +kernel
theorem dX13_comes_142 : decode cX13_comes 142 = .ok (.imul, 1) := by decide +kernel
theorem dX13_comes_143 : decode cX13_comes 143 = .ok (.lshl, 1) := by decide +kernel
theorem dX13_comes_144 : decode cX13_comes 144 = .ok (.lor, 1) := by decide +kernel
theorem dX13_comes_145 : decode cX13_comes 145 = .ok (.lstore 4, 2) := by decide +kernel
theorem dX13_comes_147 : decode cX13_comes 147 = .ok (.iinc 6 1, 3) := by decide +kernel
theorem dX13_comes_150 : decode cX13_comes 150 = .ok (.goto (-144), 3) := by decide +kernel
theorem dX13_comes_153 : decode cX13_comes 153 = .ok (.lload 4, 2) := by decide +kernel
theorem dX13_comes_155 : decode cX13_comes 155 = .ok (.lreturn, 1) := by decide +kernel
theorem dX13_ends_0 : decode cX13_ends 0 = .ok (.iconst 0, 1) := by decide +kernel
theorem dX13_ends_1 : decode cX13_ends 1 = .ok (.istore_n 3, 1) := by decide +kernel
theorem dX13_ends_2 : decode cX13_ends 2 = .ok (.iconst 0, 1) := by decide +kernel
theorem dX13_ends_3 : decode cX13_ends 3 = .ok (.istore 4, 2) := by decide +kernel
theorem dX13_ends_5 : decode cX13_ends 5 = .ok (.iload 4, 2) := by decide +kernel
theorem dX13_ends_7 : decode cX13_ends 7 = .ok (.aload_n 0, 1) := by decide +kernel
theorem dX13_ends_8 : decode cX13_ends 8 = .ok (.getfield 33, 3) := by decide +kernel
theorem dX13_ends_11 : decode cX13_ends 11 = .ok (.iconst 0, 1) := by decide +kernel
theorem dX13_ends_12 : decode cX13_ends 12 = .ok (.iaload, 1) := by decide +kernel
theorem dX13_ends_13 : decode cX13_ends 13 = .ok (.if_icmp .ge 46, 3) := by decide +kernel
theorem dX13_ends_16 : decode cX13_ends 16 = .ok (.lload_n 1, 1) := by decide +kernel
theorem dX13_ends_17 : decode cX13_ends 17 = .ok (.ldc2_w 316, 3) := by decide +kernel
theorem dX13_ends_20 : decode cX13_ends 20 = .ok (.lcmp, 1) := by decide +kernel
theorem dX13_ends_21 : decode cX13_ends 21 = .ok (.ifCond .eq 38, 3) := by decide +kernel
theorem dX13_ends_24 : decode cX13_ends 24 = .ok (.aload_n 0, 1) := by decide +kernel
theorem dX13_ends_25 : decode cX13_ends 25 = .ok (.getfield 33, 3) := by decide +kernel
theorem dX13_ends_28 : decode cX13_ends 28 = .ok (.bipush 10, 2) := by decide +kernel
theorem dX13_ends_30 : decode cX13_ends 30 = .ok (.iload 4, 2) := by decide +kernel
theorem dX13_ends_32 : decode cX13_ends 32 = .ok (.iadd, 1) := by decide +kernel
theorem dX13_ends_33 : decode cX13_ends 33 = .ok (.iaload, 1) := by decide +kernel
theorem dX13_ends_34 : decode cX13_ends 34 = .ok (.iconst 1, 1) := by decide +kernel
theorem dX13_ends_35 : decode cX13_ends 35 = .ok (.if_icmp .ne 18, 3) := by decide +kernel
theorem dX13_ends_38 : decode cX13_ends 38 = .ok (.iload_n 3, 1) := by decide +kernel
theorem dX13_ends_39 : decode cX13_ends 39 = .ok (.lload_n 1, 1) := by decide +kernel
theorem dX13_ends_40 : decode cX13_ends 40 = .ok (.bipush 8, 2) := by decide +kernel
theorem dX13_ends_42 : decode cX13_ends 42 = .ok (.iload 4, 2) := by decide +kernel
theorem dX13_ends_44 : decode cX13_ends 44 = .ok (.imul, 1) := by decide +kernel
theorem dX13_ends_45 : decode cX13_ends 45 = .ok (.lshr, 1) := by decide +kernel
theorem dX13_ends_46 : decode cX13_ends 46 = .ok (.ldc2_w 318, 3) := by decide +kernel
theorem dX13_ends_49 : decode cX13_ends 49 = .ok (.land, 1) := by decide +kernel
theorem dX13_ends_50 : decode cX13_ends 50 = .ok (.l2i, 1) := by decide +kernel
theorem dX13_ends_51 : decode cX13_ends 51 = .ok (.ior, 1) := by decide +kernel
theorem dX13_ends_52 : decode cX13_ends 52 = .ok (.istore_n 3, 1) := by decide +kernel
theorem dX13_ends_53 : decode cX13_ends 53 = .ok (.iinc 4 1, 3) := by decide +kernel
theorem dX13_ends_56 : decode cX13_ends 56 = .ok (.goto (-51), 3) := by decide +kernel
theorem dX13_ends_59 : decode cX13_ends 59 = .ok (.iload_n 3, 1) := by decide +kernel
theorem dX13_ends_60 : decode cX13_ends 60 = .ok (.ireturn, 1) := by decide +kernel
theorem dX13_meant_0 : decode cX13_meant 0 = .ok (.ldc2_w 316, 3) := by decide +kernel
theorem dX13_meant_3 : decode cX13_meant 3 = .ok (.lstore_n 3, 1) := by decide +kernel
theorem dX13_meant_4 : decode cX13_meant 4 = .ok (.iconst 0, 1) := by decide +kernel
theorem dX13_meant_5 : decode cX13_meant 5 = .ok (.istore 5, 2) := by decide +kernel
theorem dX13_meant_7 : decode cX13_meant 7 = .ok (.iload 5, 2) := by decide +kernel
theorem dX13_meant_9 : decode cX13_meant 9 = .ok (.iload_n 2, 1) := by decide +kernel
theorem dX13_meant_10 : decode cX13_meant 10 = .ok (.if_icmp .ge 19, 3) := by decide +kernel
theorem dX13_meant_13 : decode cX13_meant 13 = .ok (.aload_n 0, 1) := by decide +kernel
theorem dX13_meant_14 : decode cX13_meant 14 = .ok (.lload_n 3, 1) := by decide +kernel
theorem dX13_meant_15 : decode cX13_meant 15 = .ok (.aload_n 1, 1) := by decide +kernel
theorem dX13_meant_16 : decode cX13_meant 16 = .ok (.iload 5, 2) := by decide +kernel
theorem dX13_meant_18 : decode cX13_meant 18 = .ok (.iaload, 1) := by decide +kernel
theorem dX13_meant_19 : decode cX13_meant 19 = .ok (.invokevirtual 320, 3) := by decide +kernel
theorem dX13_meant_22 : decode cX13_meant 22 = .ok (.lstore_n 3, 1) := by decide +kernel
theorem dX13_meant_23 : decode cX13_meant 23 = .ok (.iinc 5 1, 3) := by decide +kernel
theorem dX13_meant_26 : decode cX13_meant 26 = .ok (.goto (-19), 3) := by decide +kernel
theorem dX13_meant_29 : decode cX13_meant 29 = .ok (.aload_n 0, 1) := by decide +kernel
theorem dX13_meant_30 : decode cX13_meant 30 = .ok (.lload_n 3, 1) := by decide +kernel
theorem dX13_meant_31 : decode cX13_meant 31 = .ok (.invokevirtual 324, 3) := by decide +kernel
theorem dX13_meant_34 : decode cX13_meant 34 = .ok (.ireturn, 1) := by decide +kernel
theorem dX13_textMeans_0 : decode cX13_textMeans 0 = .ok (.aload_n 0, 1) := by decide +kernel
theorem dX13_textMeans_1 : decode cX13_textMeans 1 = .ok (.invokevirtual 328, 3) := by decide +kernel
theorem dX13_textMeans_4 : decode cX13_textMeans 4 = .ok (.aload_n 0, 1) := by decide +kernel
theorem dX13_textMeans_5 : decode cX13_textMeans 5 = .ok (.iload_n 1, 1) := by decide +kernel
theorem dX13_textMeans_6 : decode cX13_textMeans 6 = .ok (.invokevirtual 313, 3) := by decide +kernel
theorem dX13_textMeans_9 : decode cX13_textMeans 9 = .ok (.aload_n 0, 1) := by decide +kernel
theorem dX13_textMeans_10 : decode cX13_textMeans 10 = .ok (.aload_n 0, 1) := by decide +kernel
theorem dX13_textMeans_11 : decode cX13_textMeans 11 = .ok (.getfield 50, 3) := by decide +kernel
theorem dX13_textMeans_14 : decode cX13_textMeans 14 = .ok (.aload_n 0, 1) := by decide +kernel
theorem dX13_textMeans_15 : decode cX13_textMeans 15 = .ok (.getfield 303, 3) := by decide +kernel
theorem dX13_textMeans_18 : decode cX13_textMeans 18 = .ok (.invokevirtual 331, 3) := by decide +kernel
theorem dX13_textMeans_21 : decode cX13_textMeans 21 = .ok (.ireturn, 1) := by decide +kernel
theorem dX13_means_0 : decode cX13_means 0 = .ok (.aload_n 0, 1) := by decide +kernel
theorem dX13_means_1 : decode cX13_means 1 = .ok (.iconst 0, 1) := by decide +kernel
theorem dX13_means_2 : decode cX13_means 2 = .ok (.putfield 1, 3) := by decide +kernel
theorem dX13_means_5 : decode cX13_means 5 = .ok (.aload_n 0, 1) := by decide +kernel
theorem dX13_means_6 : decode cX13_means 6 = .ok (.iload_n 1, 1) := by decide +kernel
theorem dX13_means_7 : decode cX13_means 7 = .ok (.invokevirtual 310, 3) := by decide +kernel
theorem dX13_means_10 : decode cX13_means 10 = .ok (.ifCond .eq 11, 3) := by decide +kernel
theorem dX13_means_13 : decode cX13_means 13 = .ok (.aload_n 0, 1) := by decide +kernel
theorem dX13_means_14 : decode cX13_means 14 = .ok (.iload_n 1, 1) := by decide +kernel
theorem dX13_means_15 : decode cX13_means 15 = .ok (.invokevirtual 335, 3) := by decide +kernel
theorem dX13_means_18 : decode cX13_means 18 = .ok (.goto 4, 3) := by decide +kernel
theorem dX13_means_21 : decode cX13_means 21 = .ok (.iconst (-1), 1) := by decide +kernel
theorem dX13_means_22 : decode cX13_means 22 = .ok (.ireturn, 1) := by decide +kernel
theorem dX13_count_0 : decode cX13_count 0 = .ok (.aload_n 0, 1) := by decide +kernel
theorem dX13_count_1 : decode cX13_count 1 = .ok (.getfield 303, 3) := by decide +kernel
theorem dX13_count_4 : decode cX13_count 4 = .ok (.iconst 1, 1) := by decide +kernel
theorem dX13_count_5 : decode cX13_count 5 = .ok (.isub, 1) := by decide +kernel
theorem dX13_count_6 : decode cX13_count 6 = .ok (.istore_n 1, 1) := by decide +kernel
theorem dX13_count_7 : decode cX13_count 7 = .ok (.iload_n 1, 1) := by decide +kernel
theorem dX13_count_8 : decode cX13_count 8 = .ok (.ifCond .lt 147, 3) := by decide +kernel
theorem dX13_count_11 : decode cX13_count 11 = .ok (.iconst 0, 1) := by decide +kernel
theorem dX13_count_12 : decode cX13_count 12 = .ok (.istore_n 2, 1) := by decide +kernel
theorem dX13_count_13 : decode cX13_count 13 = .ok (.iload_n 2, 1) := by decide +kernel
theorem dX13_count_14 : decode cX13_count 14 = .ok (.iconst 5, 1) := by decide +kernel
theorem dX13_count_15 : decode cX13_count 15 = .ok (.if_icmp .ge 134, 3) := by decide +kernel
theorem dX13_count_18 : decode cX13_count 18 = .ok (.iload_n 1, 1) := by decide +kernel
theorem dX13_count_19 : decode cX13_count 19 = .ok (.aload_n 0, 1) := by decide +kernel
theorem dX13_count_20 : decode cX13_count 20 = .ok (.getfield 303, 3) := by decide +kernel
theorem dX13_count_23 : decode cX13_count 23 = .ok (.iconst 1, 1) := by decide +kernel
theorem dX13_count_24 : decode cX13_count 24 = .ok (.isub, 1) := by decide +kernel
theorem dX13_count_25 : decode cX13_count 25 = .ok (.if_icmp .ne 16, 3) := by decide +kernel
theorem dX13_count_28 : decode cX13_count 28 = .ok (.aload_n 0, 1) := by decide +kernel
theorem dX13_count_29 : decode cX13_count 29 = .ok (.getfield 33, 3) := by decide +kernel
theorem dX13_count_32 : decode cX13_count 32 = .ok (.bipush 10, 2) := by decide +kernel
theorem dX13_count_34 : decode cX13_count 34 = .ok (.iload_n 2, 1) := by decide +kernel
theorem dX13_count_35 : decode cX13_count 35 = .ok (.iadd, 1) := by decide +kernel
theorem dX13_count_36 : decode cX13_count 36 = .ok (.iaload, 1) := by decide +kernel
theorem dX13_count_37 : decode cX13_count 37 = .ok (.i2l, 1) := by decide +kernel
theorem dX13_count_38 : decode cX13_count 38 = .ok (.goto 4, 3) := by decide +kernel
theorem dX13_count_41 : decode cX13_count 41 = .ok (.lconst 0, 1) := by decide +kernel
theorem dX13_count_42 : decode cX13_count 42 = .ok (.lstore_n 3, 1) := by decide +kernel
theorem dX13_count_43 : decode cX13_count 43 = .ok (.iconst 0, 1) := by decide +kernel
theorem dX13_count_44 : decode cX13_count 44 = .ok (.istore 5, 2) := by decide +kernel
theorem dX13_count_46 : decode cX13_count 46 = .ok (.iload 5, 2) := by decide +kernel
theorem dX13_count_48 : decode cX13_count 48 = .ok (.iconst 5, 1) := by decide +kernel
theorem dX13_count_49 : decode cX13_count 49 = .ok (.if_icmp .ge 57, 3) := by decide +kernel
theorem dX13_count_52 : decode cX13_count 52 = .ok (.iload_n 1, 1) := by decide +kernel
theorem dX13_count_53 : decode cX13_count 53 = .ok (.aload_n 0, 1) := by decide +kernel
theorem dX13_count_54 : decode cX13_count 54 = .ok (.getfield 303, 3) := by decide +kernel
theorem dX13_count_57 : decode cX13_count 57 = .ok (.iconst 1, 1) := by decide +kernel
theorem dX13_count_58 : decode cX13_count 58 = .ok (.isub, 1) := by decide +kernel
theorem dX13_count_59 : decode cX13_count 59 = .ok (.if_icmp .ge 47, 3) := by decide +kernel
theorem dX13_count_62 : decode cX13_count 62 = .ok (.lload_n 3, 1) := by decide +kernel
theorem dX13_count_63 : decode cX13_count 63 = .ok (.aload_n 0, 1) := by decide +kernel
theorem dX13_count_64 : decode cX13_count 64 = .ok (.getfield 33, 3) := by decide +kernel
theorem dX13_count_67 : decode cX13_count 67 = .ok (.bipush 15, 2) := by decide +kernel
theorem dX13_count_69 : decode cX13_count 69 = .ok (.iconst 5, 1) := by decide +kernel
theorem dX13_count_70 : decode cX13_count 70 = .ok (.iload_n 2, 1) := by decide +kernel
theorem dX13_count_71 : decode cX13_count 71 = .ok (.imul, 1) := by decide +kernel
theorem dX13_count_72 : decode cX13_count 72 = .ok (.iadd, 1) := by decide +kernel
theorem dX13_count_73 : decode cX13_count 73 = .ok (.iload 5, 2) := by decide +kernel
theorem dX13_count_75 : decode cX13_count 75 = .ok (.iadd, 1) := by decide +kernel
theorem dX13_count_76 : decode cX13_count 76 = .ok (.iaload, 1) := by decide +kernel
theorem dX13_count_77 : decode cX13_count 77 = .ok (.iconst 1, 1) := by decide +kernel
theorem dX13_count_78 : decode cX13_count 78 = .ok (.if_icmp .ne 19, 3) := by decide +kernel
theorem dX13_count_81 : decode cX13_count 81 = .ok (.aload_n 0, 1) := by decide +kernel
theorem dX13_count_82 : decode cX13_count 82 = .ok (.getfield 69, 3) := by decide +kernel
theorem dX13_count_85 : decode cX13_count 85 = .ok (.iconst 5, 1) := by decide +kernel
theorem dX13_count_86 : decode cX13_count 86 = .ok (.iload_n 1, 1) := by decide +kernel
theorem dX13_count_87 : decode cX13_count 87 = .ok (.iconst 1, 1) := by decide +kernel
theorem dX13_count_88 : decode cX13_count 88 = .ok (.iadd, 1) := by decide +kernel
theorem dX13_count_89 : decode cX13_count 89 = .ok (.imul, 1) := by decide +kernel
theorem dX13_count_90 : decode cX13_count 90 = .ok (.iload 5, 2) := by decide +kernel
theorem dX13_count_92 : decode cX13_count 92 = .ok (.iadd, 1) := by decide +kernel
theorem dX13_count_93 : decode cX13_count 93 = .ok (.laload, 1) := by decide +kernel
theorem dX13_count_94 : decode cX13_count 94 = .ok (.goto 4, 3) := by decide +kernel
theorem dX13_count_97 : decode cX13_count 97 = .ok (.lconst 0, 1) := by decide +kernel
theorem dX13_count_98 : decode cX13_count 98 = .ok (.ladd, 1) := by decide +kernel
theorem dX13_count_99 : decode cX13_count 99 = .ok (.lstore_n 3, 1) := by decide +kernel
theorem dX13_count_100 : decode cX13_count 100 = .ok (.iinc 5 1, 3) := by decide +kernel
theorem dX13_count_103 : decode cX13_count 103 = .ok (.goto (-57), 3) := by decide +kernel
theorem dX13_count_106 : decode cX13_count 106 = .ok (.aload_n 0, 1) := by decide +kernel
theorem dX13_count_107 : decode cX13_count 107 = .ok (.getfield 69, 3) := by decide +kernel
theorem dX13_count_110 : decode cX13_count 110 = .ok (.iconst 5, 1) := by decide +kernel
theorem dX13_count_111 : decode cX13_count 111 = .ok (.iload_n 1, 1) := by decide +kernel
theorem dX13_count_112 : decode cX13_count 112 = .ok (.imul, 1) := by decide +kernel
theorem dX13_count_113 : decode cX13_count 113 = .ok (.iload_n 2, 1) := by decide +kernel
theorem dX13_count_114 : decode cX13_count 114 = .ok (.iadd, 1) := by decide +kernel
theorem dX13_count_115 : decode cX13_count 115 = .ok (.aload_n 0, 1) := by decide +kernel
theorem dX13_count_116 : decode cX13_count 116 = .ok (.getfield 33, 3) := by decide +kernel
theorem dX13_count_119 : decode cX13_count 119 = .ok (.bipush 72, 2) := by decide +kernel
theorem dX13_count_121 : decode cX13_count 121 = .ok (.iconst 5, 1) := by decide +kernel
theorem dX13_count_122 : decode cX13_count 122 = .ok (.aload_n 0, 1) := by decide +kernel
theorem dX13_count_123 : decode cX13_count 123 = .ok (.getfield 50, 3) := by decide +kernel
theorem dX13_count_126 : decode cX13_count 126 = .ok (.iload_n 1, 1) := by decide +kernel
theorem dX13_count_127 : decode cX13_count 127 = .ok (.iaload, 1) := by decide +kernel
theorem dX13_count_128 : decode cX13_count 128 = .ok (.imul, 1) := by decide +kernel
theorem dX13_count_129 : decode cX13_count 129 = .ok (.iadd, 1) := by decide +kernel
theorem dX13_count_130 : decode cX13_count 130 = .ok (.iload_n 2, 1) := by decide +kernel
theorem dX13_count_131 : decode cX13_count 131 = .ok (.iadd, 1) := by decide +kernel
theorem dX13_count_132 : decode cX13_count 132 = .ok (.iaload, 1) := by decide +kernel
theorem dX13_count_133 : decode cX13_count 133 = .ok (.iconst 1, 1) := by decide +kernel
theorem dX13_count_134 : decode cX13_count 134 = .ok (.if_icmp .ne 7, 3) := by decide +kernel
theorem dX13_count_137 : decode cX13_count 137 = .ok (.lload_n 3, 1) := by decide +kernel
theorem dX13_count_138 : decode cX13_count 138 = .ok (.goto 4, 3) := by decide +kernel
theorem dX13_count_141 : decode cX13_count 141 = .ok (.lconst 0, 1) := by decide +kernel
theorem dX13_count_142 : decode cX13_count 142 = .ok (.lastore, 1) := by decide +kernel
theorem dX13_count_143 : decode cX13_count 143 = .ok (.iinc 2 1, 3) := by decide +kernel
theorem dX13_count_146 : decode cX13_count 146 = .ok (.goto (-133), 3) := by decide +kernel
theorem dX13_count_149 : decode cX13_count 149 = .ok (.iinc 1 (-1), 3) := by decide +kernel
theorem dX13_count_152 : decode cX13_count 152 = .ok (.goto (-145), 3) := by decide +kernel
theorem dX13_count_155 : decode cX13_count 155 = .ok (.return_, 1) := by decide +kernel
theorem dX13_readings_0 : decode cX13_readings 0 = .ok (.aload_n 0, 1) := by decide +kernel
theorem dX13_readings_1 : decode cX13_readings 1 = .ok (.iconst 0, 1) := by decide +kernel
theorem dX13_readings_2 : decode cX13_readings 2 = .ok (.putfield 1, 3) := by decide +kernel
theorem dX13_readings_5 : decode cX13_readings 5 = .ok (.aload_n 0, 1) := by decide +kernel
theorem dX13_readings_6 : decode cX13_readings 6 = .ok (.iload_n 1, 1) := by decide +kernel
theorem dX13_readings_7 : decode cX13_readings 7 = .ok (.invokevirtual 310, 3) := by decide +kernel
theorem dX13_readings_10 : decode cX13_readings 10 = .ok (.ifCond .ne 7, 3) := by decide +kernel
theorem dX13_readings_13 : decode cX13_readings 13 = .ok (.ldc2_w 316, 3) := by decide +kernel
theorem dX13_readings_16 : decode cX13_readings 16 = .ok (.lreturn, 1) := by decide +kernel
theorem dX13_readings_17 : decode cX13_readings 17 = .ok (.aload_n 0, 1) := by decide +kernel
theorem dX13_readings_18 : decode cX13_readings 18 = .ok (.iload_n 1, 1) := by decide +kernel
theorem dX13_readings_19 : decode cX13_readings 19 = .ok (.invokevirtual 313, 3) := by decide +kernel
theorem dX13_readings_22 : decode cX13_readings 22 = .ok (.aload_n 0, 1) := by decide +kernel
theorem dX13_readings_23 : decode cX13_readings 23 = .ok (.invokevirtual 338, 3) := by decide +kernel
theorem dX13_readings_26 : decode cX13_readings 26 = .ok (.lconst 0, 1) := by decide +kernel
theorem dX13_readings_27 : decode cX13_readings 27 = .ok (.lstore_n 2, 1) := by decide +kernel
theorem dX13_readings_28 : decode cX13_readings 28 = .ok (.iconst 0, 1) := by decide +kernel
theorem dX13_readings_29 : decode cX13_readings 29 = .ok (.istore 4, 2) := by decide +kernel
theorem dX13_readings_31 : decode cX13_readings 31 = .ok (.iload 4, 2) := by decide +kernel
theorem dX13_readings_33 : decode cX13_readings 33 = .ok (.iconst 5, 1) := by decide +kernel
theorem dX13_readings_34 : decode cX13_readings 34 = .ok (.if_icmp .ge 43, 3) := by decide +kernel
theorem dX13_readings_37 : decode cX13_readings 37 = .ok (.aload_n 0, 1) := by decide +kernel
theorem dX13_readings_38 : decode cX13_readings 38 = .ok (.getfield 303, 3) := by decide +kernel
theorem dX13_readings_41 : decode cX13_readings 41 = .ok (.ifCond .le 36, 3) := by decide +kernel
theorem dX13_readings_44 : decode cX13_readings 44 = .ok (.lload_n 2, 1) := by decide +kernel
theorem dX13_readings_45 : decode cX13_readings 45 = .ok (.aload_n 0, 1) := by decide +kernel
theorem dX13_readings_46 : decode cX13_readings 46 = .ok (.getfield 33, 3) := by decide +kernel
theorem dX13_readings_49 : decode cX13_readings 49 = .ok (.iconst 5, 1) := by decide +kernel
theorem dX13_readings_50 : decode cX13_readings 50 = .ok (.iload 4, 2) := by decide +kernel
theorem dX13_readings_52 : decode cX13_readings 52 = .ok (.iadd, 1) := by decide +kernel
theorem dX13_readings_53 : decode cX13_readings 53 = .ok (.iaload, 1) := by decide +kernel
theorem dX13_readings_54 : decode cX13_readings 54 = .ok (.iconst 1, 1) := by decide +kernel
theorem dX13_readings_55 : decode cX13_readings 55 = .ok (.if_icmp .ne 13, 3) := by decide +kernel
theorem dX13_readings_58 : decode cX13_readings 58 = .ok (.aload_n 0, 1) := by decide +kernel
theorem dX13_readings_59 : decode cX13_readings 59 = .ok (.getfield 69, 3) := by decide +kernel
theorem dX13_readings_62 : decode cX13_readings 62 = .ok (.iload 4, 2) := by decide +kernel
theorem dX13_readings_64 : decode cX13_readings 64 = .ok (.laload, 1) := by decide +kernel
theorem dX13_readings_65 : decode cX13_readings 65 = .ok (.goto 4, 3) := by decide +kernel
theorem dX13_readings_68 : decode cX13_readings 68 = .ok (.lconst 0, 1) := by decide +kernel
theorem dX13_readings_69 : decode cX13_readings 69 = .ok (.ladd, 1) := by decide +kernel
theorem dX13_readings_70 : decode cX13_readings 70 = .ok (.lstore_n 2, 1) := by decide +kernel
theorem dX13_readings_71 : decode cX13_readings 71 = .ok (.iinc 4 1, 3) := by decide +kernel
theorem dX13_readings_74 : decode cX13_readings 74 = .ok (.goto (-43), 3) := by decide +kernel
theorem dX13_readings_77 : decode cX13_readings 77 = .ok (.lload_n 2, 1) := by decide +kernel
theorem dX13_readings_78 : decode cX13_readings 78 = .ok (.lreturn, 1) := by decide +kernel
theorem dX13_sortAt_0 : decode cX13_sortAt 0 = .ok (.aload_n 0, 1) := by decide +kernel
theorem dX13_sortAt_1 : decode cX13_sortAt 1 = .ok (.iconst 0, 1) := by decide +kernel
theorem dX13_sortAt_2 : decode cX13_sortAt 2 = .ok (.putfield 1, 3) := by decide +kernel
theorem dX13_sortAt_5 : decode cX13_sortAt 5 = .ok (.aload_n 0, 1) := by decide +kernel
theorem dX13_sortAt_6 : decode cX13_sortAt 6 = .ok (.iload_n 1, 1) := by decide +kernel
theorem dX13_sortAt_7 : decode cX13_sortAt 7 = .ok (.invokevirtual 310, 3) := by decide +kernel
theorem dX13_sortAt_10 : decode cX13_sortAt 10 = .ok (.ifCond .ne 5, 3) := by decide +kernel
theorem dX13_sortAt_13 : decode cX13_sortAt 13 = .ok (.iconst (-1), 1) := by decide +kernel
theorem dX13_sortAt_14 : decode cX13_sortAt 14 = .ok (.ireturn, 1) := by decide +kernel
theorem dX13_sortAt_15 : decode cX13_sortAt 15 = .ok (.aload_n 0, 1) := by decide +kernel
theorem dX13_sortAt_16 : decode cX13_sortAt 16 = .ok (.iload_n 1, 1) := by decide +kernel
theorem dX13_sortAt_17 : decode cX13_sortAt 17 = .ok (.invokevirtual 313, 3) := by decide +kernel
theorem dX13_sortAt_20 : decode cX13_sortAt 20 = .ok (.iload_n 2, 1) := by decide +kernel
theorem dX13_sortAt_21 : decode cX13_sortAt 21 = .ok (.iconst 0, 1) := by decide +kernel
theorem dX13_sortAt_22 : decode cX13_sortAt 22 = .ok (.aload_n 0, 1) := by decide +kernel
theorem dX13_sortAt_23 : decode cX13_sortAt 23 = .ok (.getfield 303, 3) := by decide +kernel
theorem dX13_sortAt_26 : decode cX13_sortAt 26 = .ok (.iconst 1, 1) := by decide +kernel
theorem dX13_sortAt_27 : decode cX13_sortAt 27 = .ok (.isub, 1) := by decide +kernel
theorem dX13_sortAt_28 : decode cX13_sortAt 28 = .ok (.invokestatic 204, 3) := by decide +kernel
theorem dX13_sortAt_31 : decode cX13_sortAt 31 = .ok (.ifCond .ne 5, 3) := by decide +kernel
theorem dX13_sortAt_34 : decode cX13_sortAt 34 = .ok (.iconst (-1), 1) := by decide +kernel
theorem dX13_sortAt_35 : decode cX13_sortAt 35 = .ok (.ireturn, 1) := by decide +kernel
theorem dX13_sortAt_36 : decode cX13_sortAt 36 = .ok (.aload_n 0, 1) := by decide +kernel
theorem dX13_sortAt_37 : decode cX13_sortAt 37 = .ok (.invokevirtual 338, 3) := by decide +kernel
theorem dX13_sortAt_40 : decode cX13_sortAt 40 = .ok (.iconst (-1), 1) := by decide +kernel
theorem dX13_sortAt_41 : decode cX13_sortAt 41 = .ok (.istore_n 3, 1) := by decide +kernel
theorem dX13_sortAt_42 : decode cX13_sortAt 42 = .ok (.iconst 0, 1) := by decide +kernel
theorem dX13_sortAt_43 : decode cX13_sortAt 43 = .ok (.istore 4, 2) := by decide +kernel
theorem dX13_sortAt_45 : decode cX13_sortAt 45 = .ok (.iload 4, 2) := by decide +kernel
theorem dX13_sortAt_47 : decode cX13_sortAt 47 = .ok (.iload_n 2, 1) := by decide +kernel
theorem dX13_sortAt_48 : decode cX13_sortAt 48 = .ok (.if_icmp .gt 96, 3) := by decide +kernel
theorem dX13_sortAt_51 : decode cX13_sortAt 51 = .ok (.iconst (-1), 1) := by decide +kernel
theorem dX13_sortAt_52 : decode cX13_sortAt 52 = .ok (.istore 5, 2) := by decide +kernel
theorem dX13_sortAt_54 : decode cX13_sortAt 54 = .ok (.iconst 4, 1) := by decide +kernel
theorem dX13_sortAt_55 : decode cX13_sortAt 55 = .ok (.istore 6, 2) := by decide +kernel
theorem dX13_sortAt_57 : decode cX13_sortAt 57 = .ok (.iload 6, 2) := by decide +kernel
theorem dX13_sortAt_59 : decode cX13_sortAt 59 = .ok (.ifCond .lt 69, 3) := by decide +kernel
theorem dX13_sortAt_62 : decode cX13_sortAt 62 = .ok (.aload_n 0, 1) := by decide +kernel
theorem dX13_sortAt_63 : decode cX13_sortAt 63 = .ok (.getfield 69, 3) := by decide +kernel
theorem dX13_sortAt_66 : decode cX13_sortAt 66 = .ok (.iconst 5, 1) := by decide +kernel
theorem dX13_sortAt_67 : decode cX13_sortAt 67 = .ok (.iload 4, 2) := by decide +kernel
theorem dX13_sortAt_69 : decode cX13_sortAt 69 = .ok (.imul, 1) := by decide +kernel
theorem dX13_sortAt_70 : decode cX13_sortAt 70 = .ok (.iload 6, 2) := by decide +kernel
theorem dX13_sortAt_72 : decode cX13_sortAt 72 = .ok (.iadd, 1) := by decide +kernel
theorem dX13_sortAt_73 : decode cX13_sortAt 73 = .ok (.laload, 1) := by decide +kernel
theorem dX13_sortAt_74 : decode cX13_sortAt 74 = .ok (.lconst 0, 1) := by decide +kernel
theorem dX13_sortAt_75 : decode cX13_sortAt 75 = .ok (.lcmp, 1) := by decide +kernel
theorem dX13_sortAt_76 : decode cX13_sortAt 76 = .ok (.ifCond .le 46, 3) := by decide +kernel
theorem dX13_sortAt_79 : decode cX13_sortAt 79 = .ok (.iload 4, 2) := by decide +kernel
theorem dX13_sortAt_81 : decode cX13_sortAt 81 = .ok (.ifCond .ne 19, 3) := by decide +kernel
theorem dX13_sortAt_84 : decode cX13_sortAt 84 = .ok (.aload_n 0, 1) := by decide +kernel
theorem dX13_sortAt_85 : decode cX13_sortAt 85 = .ok (.getfield 33, 3) := by decide +kernel
theorem dX13_sortAt_88 : decode cX13_sortAt 88 = .ok (.iconst 5, 1) := by decide +kernel
theorem dX13_sortAt_89 : decode cX13_sortAt 89 = .ok (.iload 6, 2) := by decide +kernel
theorem dX13_sortAt_91 : decode cX13_sortAt 91 = .ok (.iadd, 1) := by decide +kernel
theorem dX13_sortAt_92 : decode cX13_sortAt 92 = .ok (.iaload, 1) := by decide +kernel
theorem dX13_sortAt_93 : decode cX13_sortAt 93 = .ok (.iconst 1, 1) := by decide +kernel
theorem dX13_sortAt_94 : decode cX13_sortAt 94 = .ok (.if_icmp .ne 28, 3) := by decide +kernel
theorem dX13_sortAt_97 : decode cX13_sortAt 97 = .ok (.goto 21, 3) := by decide +kernel
theorem dX13_sortAt_100 : decode cX13_sortAt 100 = .ok (.aload_n 0, 1) := by decide +kernel
theorem dX13_sortAt_101 : decode cX13_sortAt 101 = .ok (.getfield 33, 3) := by decide +kernel
theorem dX13_sortAt_104 : decode cX13_sortAt 104 = .ok (.bipush 15, 2) := by decide +kernel
theorem dX13_sortAt_106 : decode cX13_sortAt 106 = .ok (.iconst 5, 1) := by decide +kernel
theorem dX13_sortAt_107 : decode cX13_sortAt 107 = .ok (.iload_n 3, 1) := by decide +kernel
theorem dX13_sortAt_108 : decode cX13_sortAt 108 = .ok (.imul, 1) := by decide +kernel
theorem dX13_sortAt_109 : decode cX13_sortAt 109 = .ok (.iadd, 1) := by decide +kernel
theorem dX13_sortAt_110 : decode cX13_sortAt 110 = .ok (.iload 6, 2) := by decide +kernel
theorem dX13_sortAt_112 : decode cX13_sortAt 112 = .ok (.iadd, 1) := by decide +kernel
theorem dX13_sortAt_113 : decode cX13_sortAt 113 = .ok (.iaload, 1) := by decide +kernel
theorem dX13_sortAt_114 : decode cX13_sortAt 114 = .ok (.iconst 1, 1) := by decide +kernel
theorem dX13_sortAt_115 : decode cX13_sortAt 115 = .ok (.if_icmp .ne 7, 3) := by decide +kernel
theorem dX13_sortAt_118 : decode cX13_sortAt 118 = .ok (.iload 6, 2) := by decide +kernel
theorem dX13_sortAt_120 : decode cX13_sortAt 120 = .ok (.istore 5, 2) := by decide +kernel
theorem dX13_sortAt_122 : decode cX13_sortAt 122 = .ok (.iinc 6 (-1), 3) := by decide +kernel
theorem dX13_sortAt_125 : decode cX13_sortAt 125 = .ok (.goto (-68), 3) := by decide +kernel
theorem dX13_sortAt_128 : decode cX13_sortAt 128 = .ok (.iload 5, 2) := by decide +kernel
theorem dX13_sortAt_130 : decode cX13_sortAt 130 = .ok (.ifCond .ge 5, 3) := by decide +kernel
theorem dX13_sortAt_133 : decode cX13_sortAt 133 = .ok (.iconst (-1), 1) := by decide +kernel
theorem dX13_sortAt_134 : decode cX13_sortAt 134 = .ok (.ireturn, 1) := by decide +kernel
theorem dX13_sortAt_135 : decode cX13_sortAt 135 = .ok (.iload 5, 2) := by decide +kernel
theorem dX13_sortAt_137 : decode cX13_sortAt 137 = .ok (.istore_n 3, 1) := by decide +kernel
theorem dX13_sortAt_138 : decode cX13_sortAt 138 = .ok (.iinc 4 1, 3) := by decide +kernel
theorem dX13_sortAt_141 : decode cX13_sortAt 141 = .ok (.goto (-96), 3) := by decide +kernel
theorem dX13_sortAt_144 : decode cX13_sortAt 144 = .ok (.iload_n 3, 1) := by decide +kernel
theorem dX13_sortAt_145 : decode cX13_sortAt 145 = .ok (.ireturn, 1) := by decide +kernel
theorem dX13_turns_0 : decode cX13_turns 0 = .ok (.aload_n 0, 1) := by decide +kernel
theorem dX13_turns_1 : decode cX13_turns 1 = .ok (.iconst 0, 1) := by decide +kernel
theorem dX13_turns_2 : decode cX13_turns 2 = .ok (.putfield 1, 3) := by decide +kernel
theorem dX13_turns_5 : decode cX13_turns 5 = .ok (.aload_n 0, 1) := by decide +kernel
theorem dX13_turns_6 : decode cX13_turns 6 = .ok (.iconst 0, 1) := by decide +kernel
theorem dX13_turns_7 : decode cX13_turns 7 = .ok (.invokevirtual 335, 3) := by decide +kernel
theorem dX13_turns_10 : decode cX13_turns 10 = .ok (.istore_n 1, 1) := by decide +kernel
theorem dX13_turns_11 : decode cX13_turns 11 = .ok (.iconst 0, 1) := by decide +kernel
theorem dX13_turns_12 : decode cX13_turns 12 = .ok (.istore_n 2, 1) := by decide +kernel
theorem dX13_turns_13 : decode cX13_turns 13 = .ok (.iconst 1, 1) := by decide +kernel
theorem dX13_turns_14 : decode cX13_turns 14 = .ok (.istore_n 3, 1) := by decide +kernel
theorem dX13_turns_15 : decode cX13_turns 15 = .ok (.iload_n 3, 1) := by decide +kernel
theorem dX13_turns_16 : decode cX13_turns 16 = .ok (.aload_n 0, 1) := by decide +kernel
theorem dX13_turns_17 : decode cX13_turns 17 = .ok (.getfield 33, 3) := by decide +kernel
theorem dX13_turns_20 : decode cX13_turns 20 = .ok (.iconst 3, 1) := by decide +kernel
theorem dX13_turns_21 : decode cX13_turns 21 = .ok (.iaload, 1) := by decide +kernel
theorem dX13_turns_22 : decode cX13_turns 22 = .ok (.if_icmp .gt 28, 3) := by decide +kernel
theorem dX13_turns_25 : decode cX13_turns 25 = .ok (.iload_n 2, 1) := by decide +kernel
theorem dX13_turns_26 : decode cX13_turns 26 = .ok (.aload_n 0, 1) := by decide +kernel
theorem dX13_turns_27 : decode cX13_turns 27 = .ok (.iload_n 3, 1) := by decide +kernel
theorem dX13_turns_28 : decode cX13_turns 28 = .ok (.invokevirtual 335, 3) := by decide +kernel
theorem dX13_turns_31 : decode cX13_turns 31 = .ok (.iload_n 1, 1) := by decide +kernel
theorem dX13_turns_32 : decode cX13_turns 32 = .ok (.if_icmp .eq 9, 3) := by decide +kernel
theorem dX13_turns_35 : decode cX13_turns 35 = .ok (.iconst 1, 1) := by decide +kernel
theorem dX13_turns_36 : decode cX13_turns 36 = .ok (.iload_n 3, 1) := by decide +kernel
theorem dX13_turns_37 : decode cX13_turns 37 = .ok (.ishl, 1) := by decide +kernel
theorem dX13_turns_38 : decode cX13_turns 38 = .ok (.goto 4, 3) := by decide +kernel
theorem dX13_turns_41 : decode cX13_turns 41 = .ok (.iconst 0, 1) := by decide +kernel
theorem dX13_turns_42 : decode cX13_turns 42 = .ok (.ior, 1) := by decide +kernel
theorem dX13_turns_43 : decode cX13_turns 43 = .ok (.istore_n 2, 1) := by decide +kernel
theorem dX13_turns_44 : decode cX13_turns 44 = .ok (.iinc 3 1, 3) := by decide +kernel
theorem dX13_turns_47 : decode cX13_turns 47 = .ok (.goto (-32), 3) := by decide +kernel
theorem dX13_turns_50 : decode cX13_turns 50 = .ok (.iload_n 2, 1) := by decide +kernel
theorem dX13_turns_51 : decode cX13_turns 51 = .ok (.ireturn, 1) := by decide +kernel
theorem dX13_isAll_0 : decode cX13_isAll 0 = .ok (.iconst 0, 1) := by decide +kernel
theorem dX13_isAll_1 : decode cX13_isAll 1 = .ok (.istore_n 3, 1) := by decide +kernel
theorem dX13_isAll_2 : decode cX13_isAll 2 = .ok (.iload_n 3, 1) := by decide +kernel
theorem dX13_isAll_3 : decode cX13_isAll 3 = .ok (.bipush 8, 2) := by decide +kernel
theorem dX13_isAll_5 : decode cX13_isAll 5 = .ok (.if_icmp .ge 28, 3) := by decide +kernel
theorem dX13_isAll_8 : decode cX13_isAll 8 = .ok (.iload_n 0, 1) := by decide +kernel
theorem dX13_isAll_9 : decode cX13_isAll 9 = .ok (.iload_n 3, 1) := by decide +kernel
theorem dX13_isAll_10 : decode cX13_isAll 10 = .ok (.invokestatic 257, 3) := by decide +kernel
theorem dX13_isAll_13 : decode cX13_isAll 13 = .ok (.ifCond .eq 14, 3) := by decide +kernel
theorem dX13_isAll_16 : decode cX13_isAll 16 = .ok (.iload_n 3, 1) := by decide +kernel
theorem dX13_isAll_17 : decode cX13_isAll 17 = .ok (.iload_n 1, 1) := by decide +kernel
theorem dX13_isAll_18 : decode cX13_isAll 18 = .ok (.invokestatic 257, 3) := by decide +kernel
theorem dX13_isAll_21 : decode cX13_isAll 21 = .ok (.iload_n 2, 1) := by decide +kernel
theorem dX13_isAll_22 : decode cX13_isAll 22 = .ok (.if_icmp .eq 5, 3) := by decide +kernel
theorem dX13_isAll_25 : decode cX13_isAll 25 = .ok (.iconst 0, 1) := by decide +kernel
theorem dX13_isAll_26 : decode cX13_isAll 26 = .ok (.ireturn, 1) := by decide +kernel
theorem dX13_isAll_27 : decode cX13_isAll 27 = .ok (.iinc 3 1, 3) := by decide +kernel
theorem dX13_isAll_30 : decode cX13_isAll 30 = .ok (.goto (-28), 3) := by decide +kernel
theorem dX13_isAll_33 : decode cX13_isAll 33 = .ok (.iconst 1, 1) := by decide +kernel
theorem dX13_isAll_34 : decode cX13_isAll 34 = .ok (.ireturn, 1) := by decide +kernel
theorem dX13_against_0 : decode cX13_against 0 = .ok (.aload_n 0, 1) := by decide +kernel
theorem dX13_against_1 : decode cX13_against 1 = .ok (.iconst 0, 1) := by decide +kernel
theorem dX13_against_2 : decode cX13_against 2 = .ok (.putfield 1, 3) := by decide +kernel
theorem dX13_against_5 : decode cX13_against 5 = .ok (.iload_n 1, 1) := by decide +kernel
theorem dX13_against_6 : decode cX13_against 6 = .ok (.iconst 0, 1) := by decide +kernel
theorem dX13_against_7 : decode cX13_against 7 = .ok (.aload_n 0, 1) := by decide +kernel
theorem dX13_against_8 : decode cX13_against 8 = .ok (.getfield 33, 3) := by decide +kernel
theorem dX13_against_11 : decode cX13_against 11 = .ok (.iconst 1, 1) := by decide +kernel
theorem dX13_against_12 : decode cX13_against 12 = .ok (.iaload, 1) := by decide +kernel
theorem dX13_against_13 : decode cX13_against 13 = .ok (.iconst 1, 1) := by decide +kernel
theorem dX13_against_14 : decode cX13_against 14 = .ok (.isub, 1) := by decide +kernel
theorem dX13_against_15 : decode cX13_against 15 = .ok (.invokestatic 204, 3) := by decide +kernel
theorem dX13_against_18 : decode cX13_against 18 = .ok (.ifCond .ne 5, 3) := by decide +kernel
theorem dX13_against_21 : decode cX13_against 21 = .ok (.iconst (-1), 1) := by decide +kernel
theorem dX13_against_22 : decode cX13_against 22 = .ok (.ireturn, 1) := by decide +kernel
theorem dX13_against_23 : decode cX13_against 23 = .ok (.aload_n 0, 1) := by decide +kernel
theorem dX13_against_24 : decode cX13_against 24 = .ok (.iconst 0, 1) := by decide +kernel
theorem dX13_against_25 : decode cX13_against 25 = .ok (.invokevirtual 335, 3) := by decide +kernel
theorem dX13_against_28 : decode cX13_against 28 = .ok (.istore_n 2, 1) := by decide +kernel
theorem dX13_against_29 : decode cX13_against 29 = .ok (.iconst 0, 1) := by decide +kernel
theorem dX13_against_30 : decode cX13_against 30 = .ok (.istore_n 3, 1) := by decide +kernel
theorem dX13_against_31 : decode cX13_against 31 = .ok (.iconst 1, 1) := by decide +kernel
theorem dX13_against_32 : decode cX13_against 32 = .ok (.istore 4, 2) := by decide +kernel
theorem dX13_against_34 : decode cX13_against 34 = .ok (.iload 4, 2) := by decide +kernel
theorem dX13_against_36 : decode cX13_against 36 = .ok (.aload_n 0, 1) := by decide +kernel
theorem dX13_against_37 : decode cX13_against 37 = .ok (.getfield 33, 3) := by decide +kernel
theorem dX13_against_40 : decode cX13_against 40 = .ok (.iconst 3, 1) := by decide +kernel
theorem dX13_against_41 : decode cX13_against 41 = .ok (.iaload, 1) := by decide +kernel
theorem dX13_against_42 : decode cX13_against 42 = .ok (.if_icmp .gt 78, 3) := by decide +kernel
theorem dX13_against_45 : decode cX13_against 45 = .ok (.aload_n 0, 1) := by decide +kernel
theorem dX13_against_46 : decode cX13_against 46 = .ok (.iload 4, 2) := by decide +kernel
theorem dX13_against_48 : decode cX13_against 48 = .ok (.invokevirtual 335, 3) := by decide +kernel
theorem dX13_against_51 : decode cX13_against 51 = .ok (.istore 5, 2) := by decide +kernel
theorem dX13_against_53 : decode cX13_against 53 = .ok (.iload_n 2, 1) := by decide +kernel
theorem dX13_against_54 : decode cX13_against 54 = .ok (.ifCond .eq 60, 3) := by decide +kernel
theorem dX13_against_57 : decode cX13_against 57 = .ok (.iload 5, 2) := by decide +kernel
theorem dX13_against_59 : decode cX13_against 59 = .ok (.ifCond .ne 6, 3) := by decide +kernel
theorem dX13_against_62 : decode cX13_against 62 = .ok (.goto 52, 3) := by decide +kernel
theorem dX13_against_65 : decode cX13_against 65 = .ok (.iload_n 3, 1) := by decide +kernel
theorem dX13_against_66 : decode cX13_against 66 = .ok (.iload_n 2, 1) := by decide +kernel
theorem dX13_against_67 : decode cX13_against 67 = .ok (.iload_n 1, 1) := by decide +kernel
theorem dX13_against_68 : decode cX13_against 68 = .ok (.iconst 1, 1) := by decide +kernel
theorem dX13_against_69 : decode cX13_against 69 = .ok (.invokestatic 341, 3) := by decide +kernel
theorem dX13_against_72 : decode cX13_against 72 = .ok (.ifCond .eq 13, 3) := by decide +kernel
theorem dX13_against_75 : decode cX13_against 75 = .ok (.iload 5, 2) := by decide +kernel
theorem dX13_against_77 : decode cX13_against 77 = .ok (.iload_n 1, 1) := by decide +kernel
theorem dX13_against_78 : decode cX13_against 78 = .ok (.iconst 0, 1) := by decide +kernel
theorem dX13_against_79 : decode cX13_against 79 = .ok (.invokestatic 341, 3) := by decide +kernel
theorem dX13_against_82 : decode cX13_against 82 = .ok (.ifCond .ne 22, 3) := by decide +kernel
theorem dX13_against_85 : decode cX13_against 85 = .ok (.iload_n 2, 1) := by decide +kernel
theorem dX13_against_86 : decode cX13_against 86 = .ok (.iload_n 1, 1) := by decide +kernel
theorem dX13_against_87 : decode cX13_against 87 = .ok (.iconst 0, 1) := by decide +kernel
theorem dX13_against_88 : decode cX13_against 88 = .ok (.invokestatic 341, 3) := by decide +kernel
theorem dX13_against_91 : decode cX13_against 91 = .ok (.ifCond .eq 20, 3) := by decide +kernel
theorem dX13_against_94 : decode cX13_against 94 = .ok (.iload 5, 2) := by decide +kernel
theorem dX13_against_96 : decode cX13_against 96 = .ok (.iload_n 1, 1) := by decide +kernel
theorem dX13_against_97 : decode cX13_against 97 = .ok (.iconst 1, 1) := by decide +kernel
theorem dX13_against_98 : decode cX13_against 98 = .ok (.invokestatic 341, 3) := by decide +kernel
theorem dX13_against_101 : decode cX13_against 101 = .ok (.ifCond .eq 10, 3) := by decide +kernel
theorem dX13_against_104 : decode cX13_against 104 = .ok (.iconst 1, 1) := by decide +kernel
theorem dX13_against_105 : decode cX13_against 105 = .ok (.iload 4, 2) := by decide +kernel
theorem dX13_against_107 : decode cX13_against 107 = .ok (.ishl, 1) := by decide +kernel
theorem dX13_against_108 : decode cX13_against 108 = .ok (.goto 4, 3) := by decide +kernel
theorem dX13_against_111 : decode cX13_against 111 = .ok (.iconst 0, 1) := by decide +kernel
theorem dX13_against_112 : decode cX13_against 112 = .ok (.ior, 1) := by decide +kernel
theorem dX13_against_113 : decode cX13_against 113 = .ok (.istore_n 3, 1) := by decide +kernel
theorem dX13_against_114 : decode cX13_against 114 = .ok (.iinc 4 1, 3) := by decide +kernel
theorem dX13_against_117 : decode cX13_against 117 = .ok (.goto (-83), 3) := by decide +kernel
theorem dX13_against_120 : decode cX13_against 120 = .ok (.iload_n 3, 1) := by decide +kernel
theorem dX13_against_121 : decode cX13_against 121 = .ok (.ireturn, 1) := by decide +kernel
theorem dX13_twice_0 : decode cX13_twice 0 = .ok (.aload_n 0, 1) := by decide +kernel
theorem dX13_twice_1 : decode cX13_twice 1 = .ok (.iconst 0, 1) := by decide +kernel
theorem dX13_twice_2 : decode cX13_twice 2 = .ok (.putfield 1, 3) := by decide +kernel
theorem dX13_twice_5 : decode cX13_twice 5 = .ok (.iload_n 1, 1) := by decide +kernel
theorem dX13_twice_6 : decode cX13_twice 6 = .ok (.iconst 1, 1) := by decide +kernel
theorem dX13_twice_7 : decode cX13_twice 7 = .ok (.aload_n 0, 1) := by decide +kernel
theorem dX13_twice_8 : decode cX13_twice 8 = .ok (.getfield 33, 3) := by decide +kernel
theorem dX13_twice_11 : decode cX13_twice 11 = .ok (.iconst 3, 1) := by decide +kernel
theorem dX13_twice_12 : decode cX13_twice 12 = .ok (.iaload, 1) := by decide +kernel
theorem dX13_twice_13 : decode cX13_twice 13 = .ok (.invokestatic 204, 3) := by decide +kernel
theorem dX13_twice_16 : decode cX13_twice 16 = .ok (.ifCond .eq 17, 3) := by decide +kernel
theorem dX13_twice_19 : decode cX13_twice 19 = .ok (.iload_n 2, 1) := by decide +kernel
theorem dX13_twice_20 : decode cX13_twice 20 = .ok (.iconst 1, 1) := by decide +kernel
theorem dX13_twice_21 : decode cX13_twice 21 = .ok (.aload_n 0, 1) := by decide +kernel
theorem dX13_twice_22 : decode cX13_twice 22 = .ok (.getfield 33, 3) := by decide +kernel
theorem dX13_twice_25 : decode cX13_twice 25 = .ok (.iconst 3, 1) := by decide +kernel
theorem dX13_twice_26 : decode cX13_twice 26 = .ok (.iaload, 1) := by decide +kernel
theorem dX13_twice_27 : decode cX13_twice 27 = .ok (.invokestatic 204, 3) := by decide +kernel
theorem dX13_twice_30 : decode cX13_twice 30 = .ok (.ifCond .ne 5, 3) := by decide +kernel
theorem dX13_twice_33 : decode cX13_twice 33 = .ok (.iconst (-1), 1) := by decide +kernel
theorem dX13_twice_34 : decode cX13_twice 34 = .ok (.ireturn, 1) := by decide +kernel
theorem dX13_twice_35 : decode cX13_twice 35 = .ok (.aload_n 0, 1) := by decide +kernel
theorem dX13_twice_36 : decode cX13_twice 36 = .ok (.invokevirtual 328, 3) := by decide +kernel
theorem dX13_twice_39 : decode cX13_twice 39 = .ok (.aload_n 0, 1) := by decide +kernel
theorem dX13_twice_40 : decode cX13_twice 40 = .ok (.iload_n 1, 1) := by decide +kernel
theorem dX13_twice_41 : decode cX13_twice 41 = .ok (.invokevirtual 313, 3) := by decide +kernel
theorem dX13_twice_44 : decode cX13_twice 44 = .ok (.iconst 0, 1) := by decide +kernel
theorem dX13_twice_45 : decode cX13_twice 45 = .ok (.istore_n 3, 1) := by decide +kernel
theorem dX13_twice_46 : decode cX13_twice 46 = .ok (.iload_n 3, 1) := by decide +kernel
theorem dX13_twice_47 : decode cX13_twice 47 = .ok (.aload_n 0, 1) := by decide +kernel
theorem dX13_twice_48 : decode cX13_twice 48 = .ok (.getfield 303, 3) := by decide +kernel
theorem dX13_twice_51 : decode cX13_twice 51 = .ok (.if_icmp .ge 21, 3) := by decide +kernel
theorem dX13_twice_54 : decode cX13_twice 54 = .ok (.aload_n 0, 1) := by decide +kernel
theorem dX13_twice_55 : decode cX13_twice 55 = .ok (.getfield 47, 3) := by decide +kernel
theorem dX13_twice_58 : decode cX13_twice 58 = .ok (.iload_n 3, 1) := by decide +kernel
theorem dX13_twice_59 : decode cX13_twice 59 = .ok (.aload_n 0, 1) := by decide +kernel
theorem dX13_twice_60 : decode cX13_twice 60 = .ok (.getfield 50, 3) := by decide +kernel
theorem dX13_twice_63 : decode cX13_twice 63 = .ok (.iload_n 3, 1) := by decide +kernel
theorem dX13_twice_64 : decode cX13_twice 64 = .ok (.iaload, 1) := by decide +kernel
theorem dX13_twice_65 : decode cX13_twice 65 = .ok (.iastore, 1) := by decide +kernel
theorem dX13_twice_66 : decode cX13_twice 66 = .ok (.iinc 3 1, 3) := by decide +kernel
theorem dX13_twice_69 : decode cX13_twice 69 = .ok (.goto (-23), 3) := by decide +kernel
theorem dX13_twice_72 : decode cX13_twice 72 = .ok (.aload_n 0, 1) := by decide +kernel
theorem dX13_twice_73 : decode cX13_twice 73 = .ok (.aload_n 0, 1) := by decide +kernel
theorem dX13_twice_74 : decode cX13_twice 74 = .ok (.getfield 47, 3) := by decide +kernel
theorem dX13_twice_77 : decode cX13_twice 77 = .ok (.aload_n 0, 1) := by decide +kernel
theorem dX13_twice_78 : decode cX13_twice 78 = .ok (.getfield 303, 3) := by decide +kernel
theorem dX13_twice_81 : decode cX13_twice 81 = .ok (.iload_n 2, 1) := by decide +kernel
theorem dX13_twice_82 : decode cX13_twice 82 = .ok (.invokevirtual 306, 3) := by decide +kernel
theorem dX13_twice_85 : decode cX13_twice 85 = .ok (.aload_n 0, 1) := by decide +kernel
theorem dX13_twice_86 : decode cX13_twice 86 = .ok (.aload_n 0, 1) := by decide +kernel
theorem dX13_twice_87 : decode cX13_twice 87 = .ok (.getfield 50, 3) := by decide +kernel
theorem dX13_twice_90 : decode cX13_twice 90 = .ok (.aload_n 0, 1) := by decide +kernel
theorem dX13_twice_91 : decode cX13_twice 91 = .ok (.getfield 303, 3) := by decide +kernel
theorem dX13_twice_94 : decode cX13_twice 94 = .ok (.invokevirtual 331, 3) := by decide +kernel
theorem dX13_twice_97 : decode cX13_twice 97 = .ok (.ireturn, 1) := by decide +kernel
theorem dX13_standIn_0 : decode cX13_standIn 0 = .ok (.aload_n 0, 1) := by decide +kernel
theorem dX13_standIn_1 : decode cX13_standIn 1 = .ok (.iconst 0, 1) := by decide +kernel
theorem dX13_standIn_2 : decode cX13_standIn 2 = .ok (.putfield 1, 3) := by decide +kernel
theorem dX13_standIn_5 : decode cX13_standIn 5 = .ok (.iload_n 1, 1) := by decide +kernel
theorem dX13_standIn_6 : decode cX13_standIn 6 = .ok (.iconst 0, 1) := by decide +kernel
theorem dX13_standIn_7 : decode cX13_standIn 7 = .ok (.aload_n 0, 1) := by decide +kernel
theorem dX13_standIn_8 : decode cX13_standIn 8 = .ok (.getfield 33, 3) := by decide +kernel
theorem dX13_standIn_11 : decode cX13_standIn 11 = .ok (.sipush 437, 3) := by decide +kernel
theorem dX13_standIn_14 : decode cX13_standIn 14 = .ok (.iaload, 1) := by decide +kernel
theorem dX13_standIn_15 : decode cX13_standIn 15 = .ok (.iconst 1, 1) := by decide +kernel
theorem dX13_standIn_16 : decode cX13_standIn 16 = .ok (.isub, 1) := by decide +kernel
theorem dX13_standIn_17 : decode cX13_standIn 17 = .ok (.invokestatic 204, 3) := by decide +kernel
theorem dX13_standIn_20 : decode cX13_standIn 20 = .ok (.ifCond .ne 5, 3) := by decide +kernel
theorem dX13_standIn_23 : decode cX13_standIn 23 = .ok (.iconst (-1), 1) := by decide +kernel
theorem dX13_standIn_24 : decode cX13_standIn 24 = .ok (.ireturn, 1) := by decide +kernel
theorem dX13_standIn_25 : decode cX13_standIn 25 = .ok (.iconst 0, 1) := by decide +kernel
theorem dX13_standIn_26 : decode cX13_standIn 26 = .ok (.istore_n 2, 1) := by decide +kernel
theorem dX13_standIn_27 : decode cX13_standIn 27 = .ok (.iload_n 2, 1) := by decide +kernel
theorem dX13_standIn_28 : decode cX13_standIn 28 = .ok (.aload_n 0, 1) := by decide +kernel
theorem dX13_standIn_29 : decode cX13_standIn 29 = .ok (.getfield 33, 3) := by decide +kernel
theorem dX13_standIn_32 : decode cX13_standIn 32 = .ok (.iconst 3, 1) := by decide +kernel
theorem dX13_standIn_33 : decode cX13_standIn 33 = .ok (.iaload, 1) := by decide +kernel
theorem dX13_standIn_34 : decode cX13_standIn 34 = .ok (.if_icmp .gt 20, 3) := by decide +kernel
theorem dX13_standIn_37 : decode cX13_standIn 37 = .ok (.aload_n 0, 1) := by decide +kernel
theorem dX13_standIn_38 : decode cX13_standIn 38 = .ok (.getfield 72, 3) := by decide +kernel
theorem dX13_standIn_41 : decode cX13_standIn 41 = .ok (.iload_n 2, 1) := by decide +kernel
theorem dX13_standIn_42 : decode cX13_standIn 42 = .ok (.aload_n 0, 1) := by decide +kernel
theorem dX13_standIn_43 : decode cX13_standIn 43 = .ok (.iload_n 2, 1) := by decide +kernel
theorem dX13_standIn_44 : decode cX13_standIn 44 = .ok (.invokevirtual 335, 3) := by decide +kernel
theorem dX13_standIn_47 : decode cX13_standIn 47 = .ok (.iastore, 1) := by decide +kernel
theorem dX13_standIn_48 : decode cX13_standIn 48 = .ok (.iinc 2 1, 3) := by decide +kernel
theorem dX13_standIn_51 : decode cX13_standIn 51 = .ok (.goto (-24), 3) := by decide +kernel
theorem dX13_standIn_54 : decode cX13_standIn 54 = .ok (.aload_n 0, 1) := by decide +kernel
theorem dX13_standIn_55 : decode cX13_standIn 55 = .ok (.getfield 33, 3) := by decide +kernel
theorem dX13_standIn_58 : decode cX13_standIn 58 = .ok (.sipush 438, 3) := by decide +kernel
theorem dX13_standIn_61 : decode cX13_standIn 61 = .ok (.iload_n 1, 1) := by decide +kernel
theorem dX13_standIn_62 : decode cX13_standIn 62 = .ok (.iadd, 1) := by decide +kernel
theorem dX13_standIn_63 : decode cX13_standIn 63 = .ok (.iaload, 1) := by decide +kernel
theorem dX13_standIn_64 : decode cX13_standIn 64 = .ok (.istore_n 2, 1) := by decide +kernel
theorem dX13_standIn_65 : decode cX13_standIn 65 = .ok (.iconst 0, 1) := by decide +kernel
theorem dX13_standIn_66 : decode cX13_standIn 66 = .ok (.istore_n 3, 1) := by decide +kernel
theorem dX13_standIn_67 : decode cX13_standIn 67 = .ok (.iconst 0, 1) := by decide +kernel
theorem dX13_standIn_68 : decode cX13_standIn 68 = .ok (.istore 4, 2) := by decide +kernel
theorem dX13_standIn_70 : decode cX13_standIn 70 = .ok (.iload 4, 2) := by decide +kernel
theorem dX13_standIn_72 : decode cX13_standIn 72 = .ok (.aload_n 0, 1) := by decide +kernel
theorem dX13_standIn_73 : decode cX13_standIn 73 = .ok (.getfield 33, 3) := by decide +kernel
theorem dX13_standIn_76 : decode cX13_standIn 76 = .ok (.iconst 2, 1) := by decide +kernel
theorem dX13_standIn_77 : decode cX13_standIn 77 = .ok (.iaload, 1) := by decide +kernel
theorem dX13_standIn_78 : decode cX13_standIn 78 = .ok (.if_icmp .ge 88, 3) := by decide +kernel
theorem dX13_standIn_81 : decode cX13_standIn 81 = .ok (.aload_n 0, 1) := by decide +kernel
theorem dX13_standIn_82 : decode cX13_standIn 82 = .ok (.getfield 33, 3) := by decide +kernel
theorem dX13_standIn_85 : decode cX13_standIn 85 = .ok (.sipush 438, 3) := by decide +kernel
theorem dX13_standIn_88 : decode cX13_standIn 88 = .ok (.iload_n 1, 1) := by decide +kernel
theorem dX13_standIn_89 : decode cX13_standIn 89 = .ok (.iadd, 1) := by decide +kernel
theorem dX13_standIn_90 : decode cX13_standIn 90 = .ok (.iload 4, 2) := by decide +kernel
theorem dX13_standIn_92 : decode cX13_standIn 92 = .ok (.iastore, 1) := by decide +kernel
theorem dX13_standIn_93 : decode cX13_standIn 93 = .ok (.iconst 1, 1) := by decide +kernel
theorem dX13_standIn_94 : decode cX13_standIn 94 = .ok (.istore 5, 2) := by decide +kernel
theorem dX13_standIn_96 : decode cX13_standIn 96 = .ok (.iconst 0, 1) := by decide +kernel
theorem dX13_standIn_97 : decode cX13_standIn 97 = .ok (.istore 6, 2) := by decide +kernel
theorem dX13_standIn_99 : decode cX13_standIn 99 = .ok (.iload 6, 2) := by decide +kernel
theorem dX13_standIn_101 : decode cX13_standIn 101 = .ok (.aload_n 0, 1) := by decide +kernel
theorem dX13_standIn_102 : decode cX13_standIn 102 = .ok (.getfield 33, 3) := by decide +kernel
theorem dX13_standIn_105 : decode cX13_standIn 105 = .ok (.iconst 3, 1) := by decide +kernel
theorem dX13_standIn_106 : decode cX13_standIn 106 = .ok (.iaload, 1) := by decide +kernel
theorem dX13_standIn_107 : decode cX13_standIn 107 = .ok (.if_icmp .gt 37, 3) := by decide +kernel
theorem dX13_standIn_110 : decode cX13_standIn 110 = .ok (.iload 5, 2) := by decide +kernel
theorem dX13_standIn_112 : decode cX13_standIn 112 = .ok (.ifCond .eq 23, 3) := by decide +kernel
theorem dX13_standIn_115 : decode cX13_standIn 115 = .ok (.aload_n 0, 1) := by decide +kernel
theorem dX13_standIn_116 : decode cX13_standIn 116 = .ok (.iload 6, 2) := by decide +kernel
theorem dX13_standIn_118 : decode cX13_standIn 118 = .ok (.invokevirtual 335, 3) := by decide +kernel
theorem dX13_standIn_121 : decode cX13_standIn 121 = .ok (.aload_n 0, 1) := by decide +kernel
theorem dX13_standIn_122 : decode cX13_standIn 122 = .ok (.getfield 72, 3) := by decide +kernel
theorem dX13_standIn_125 : decode cX13_standIn 125 = .ok (.iload 6, 2) := by decide +kernel
theorem dX13_standIn_127 : decode cX13_standIn 127 = .ok (.iaload, 1) := by decide +kernel
theorem dX13_standIn_128 : decode cX13_standIn 128 = .ok (.if_icmp .ne 7, 3) := by decide +kernel
theorem dX13_standIn_131 : decode cX13_standIn 131 = .ok (.iconst 1, 1) := by decide +kernel
theorem dX13_standIn_132 : decode cX13_standIn 132 = .ok (.goto 4, 3) := by decide +kernel
theorem dX13_standIn_135 : decode cX13_standIn 135 = .ok (.iconst 0, 1) := by decide +kernel
theorem dX13_standIn_136 : decode cX13_standIn 136 = .ok (.istore 5, 2) := by decide +kernel
theorem dX13_standIn_138 : decode cX13_standIn 138 = .ok (.iinc 6 1, 3) := by decide +kernel
theorem dX13_standIn_141 : decode cX13_standIn 141 = .ok (.goto (-42), 3) := by decide +kernel
theorem dX13_standIn_144 : decode cX13_standIn 144 = .ok (.iload_n 3, 1) := by decide +kernel
theorem dX13_standIn_145 : decode cX13_standIn 145 = .ok (.iload 5, 2) := by decide +kernel
theorem dX13_standIn_147 : decode cX13_standIn 147 = .ok (.ifCond .eq 10, 3) := by decide +kernel
theorem dX13_standIn_150 : decode cX13_standIn 150 = .ok (.iconst 1, 1) := by decide +kernel
theorem dX13_standIn_151 : decode cX13_standIn 151 = .ok (.iload 4, 2) := by decide +kernel
theorem dX13_standIn_153 : decode cX13_standIn 153 = .ok (.ishl, 1) := by decide +kernel
theorem dX13_standIn_154 : decode cX13_standIn 154 = .ok (.goto 4, 3) := by decide +kernel
theorem dX13_standIn_157 : decode cX13_standIn 157 = .ok (.iconst 0, 1) := by decide +kernel
theorem dX13_standIn_158 : decode cX13_standIn 158 = .ok (.ior, 1) := by decide +kernel
theorem dX13_standIn_159 : decode cX13_standIn 159 = .ok (.istore_n 3, 1) := by decide +kernel
theorem dX13_standIn_160 : decode cX13_standIn 160 = .ok (.iinc 4 1, 3) := by decide +kernel
theorem dX13_standIn_163 : decode cX13_standIn 163 = .ok (.goto (-93), 3) := by decide +kernel
theorem dX13_standIn_166 : decode cX13_standIn 166 = .ok (.aload_n 0, 1) := by decide +kernel
theorem dX13_standIn_167 : decode cX13_standIn 167 = .ok (.getfield 33, 3) := by decide +kernel
theorem dX13_standIn_170 : decode cX13_standIn 170 = .ok (.sipush 438, 3) := by decide +kernel
theorem dX13_standIn_173 : decode cX13_standIn 173 = .ok (.iload_n 1, 1) := by decide +kernel
theorem dX13_standIn_174 : decode cX13_standIn 174 = .ok (.iadd, 1) := by decide +kernel
theorem dX13_standIn_175 : decode cX13_standIn 175 = .ok (.iload_n 2, 1) := by decide +kernel
theorem dX13_standIn_176 : decode cX13_standIn 176 = .ok (.iastore, 1) := by decide +kernel
theorem dX13_standIn_177 : decode cX13_standIn 177 = .ok (.iload_n 3, 1) := by decide +kernel
theorem dX13_standIn_178 : decode cX13_standIn 178 = .ok (.ireturn, 1) := by decide +kernel
theorem dX13_only_0 : decode cX13_only 0 = .ok (.iconst 0, 1) := by decide +kernel
theorem dX13_only_1 : decode cX13_only 1 = .ok (.istore_n 1, 1) := by decide +kernel
theorem dX13_only_2 : decode cX13_only 2 = .ok (.iload_n 1, 1) := by decide +kernel
theorem dX13_only_3 : decode cX13_only 3 = .ok (.bipush 8, 2) := by decide +kernel
theorem dX13_only_5 : decode cX13_only 5 = .ok (.if_icmp .ge 18, 3) := by decide +kernel
theorem dX13_only_8 : decode cX13_only 8 = .ok (.iload_n 0, 1) := by decide +kernel
theorem dX13_only_9 : decode cX13_only 9 = .ok (.iconst 1, 1) := by decide +kernel
theorem dX13_only_10 : decode cX13_only 10 = .ok (.iload_n 1, 1) := by decide +kernel
theorem dX13_only_11 : decode cX13_only 11 = .ok (.ishl, 1) := by decide +kernel
theorem dX13_only_12 : decode cX13_only 12 = .ok (.if_icmp .ne 5, 3) := by decide +kernel
theorem dX13_only_15 : decode cX13_only 15 = .ok (.iload_n 1, 1) := by decide +kernel
theorem dX13_only_16 : decode cX13_only 16 = .ok (.ireturn, 1) := by decide +kernel
theorem dX13_only_17 : decode cX13_only 17 = .ok (.iinc 1 1, 3) := by decide +kernel
theorem dX13_only_20 : decode cX13_only 20 = .ok (.goto (-18), 3) := by decide +kernel
theorem dX13_only_23 : decode cX13_only 23 = .ok (.iconst (-1), 1) := by decide +kernel
theorem dX13_only_24 : decode cX13_only 24 = .ok (.ireturn, 1) := by decide +kernel
theorem dX13_safe_0 : decode cX13_safe 0 = .ok (.aload_n 0, 1) := by decide +kernel
theorem dX13_safe_1 : decode cX13_safe 1 = .ok (.iconst 0, 1) := by decide +kernel
theorem dX13_safe_2 : decode cX13_safe 2 = .ok (.putfield 1, 3) := by decide +kernel
theorem dX13_safe_5 : decode cX13_safe 5 = .ok (.aload_n 0, 1) := by decide +kernel
theorem dX13_safe_6 : decode cX13_safe 6 = .ok (.iconst 1, 1) := by decide +kernel
theorem dX13_safe_7 : decode cX13_safe 7 = .ok (.invokevirtual 335, 3) := by decide +kernel
theorem dX13_safe_10 : decode cX13_safe 10 = .ok (.invokestatic 345, 3) := by decide +kernel
theorem dX13_safe_13 : decode cX13_safe 13 = .ok (.istore_n 1, 1) := by decide +kernel
theorem dX13_safe_14 : decode cX13_safe 14 = .ok (.iconst 2, 1) := by decide +kernel
theorem dX13_safe_15 : decode cX13_safe 15 = .ok (.istore_n 2, 1) := by decide +kernel
theorem dX13_safe_16 : decode cX13_safe 16 = .ok (.iload_n 2, 1) := by decide +kernel
theorem dX13_safe_17 : decode cX13_safe 17 = .ok (.aload_n 0, 1) := by decide +kernel
theorem dX13_safe_18 : decode cX13_safe 18 = .ok (.getfield 33, 3) := by decide +kernel
theorem dX13_safe_21 : decode cX13_safe 21 = .ok (.iconst 3, 1) := by decide +kernel
theorem dX13_safe_22 : decode cX13_safe 22 = .ok (.iaload, 1) := by decide +kernel
theorem dX13_safe_23 : decode cX13_safe 23 = .ok (.if_icmp .gt 26, 3) := by decide +kernel
theorem dX13_safe_26 : decode cX13_safe 26 = .ok (.iload_n 1, 1) := by decide +kernel
theorem dX13_safe_27 : decode cX13_safe 27 = .ok (.ifCond .lt 16, 3) := by decide +kernel
theorem dX13_safe_30 : decode cX13_safe 30 = .ok (.aload_n 0, 1) := by decide +kernel
theorem dX13_safe_31 : decode cX13_safe 31 = .ok (.iload_n 2, 1) := by decide +kernel
theorem dX13_safe_32 : decode cX13_safe 32 = .ok (.invokevirtual 335, 3) := by decide +kernel
theorem dX13_safe_35 : decode cX13_safe 35 = .ok (.iconst 1, 1) := by decide +kernel
theorem dX13_safe_36 : decode cX13_safe 36 = .ok (.iload_n 1, 1) := by decide +kernel
theorem dX13_safe_37 : decode cX13_safe 37 = .ok (.ishl, 1) := by decide +kernel
theorem dX13_safe_38 : decode cX13_safe 38 = .ok (.if_icmp .eq 5, 3) := by decide +kernel
theorem dX13_safe_41 : decode cX13_safe 41 = .ok (.iconst (-1), 1) := by decide +kernel
theorem dX13_safe_42 : decode cX13_safe 42 = .ok (.istore_n 1, 1) := by decide +kernel
theorem dX13_safe_43 : decode cX13_safe 43 = .ok (.iinc 2 1, 3) := by decide +kernel
theorem dX13_safe_46 : decode cX13_safe 46 = .ok (.goto (-30), 3) := by decide +kernel
theorem dX13_safe_49 : decode cX13_safe 49 = .ok (.iload_n 1, 1) := by decide +kernel
theorem dX13_safe_50 : decode cX13_safe 50 = .ok (.ireturn, 1) := by decide +kernel
theorem dX13_common_0 : decode cX13_common 0 = .ok (.iload_n 0, 1) := by decide +kernel
theorem dX13_common_1 : decode cX13_common 1 = .ok (.istore_n 2, 1) := by decide +kernel
theorem dX13_common_2 : decode cX13_common 2 = .ok (.iload_n 1, 1) := by decide +kernel
theorem dX13_common_3 : decode cX13_common 3 = .ok (.istore_n 3, 1) := by decide +kernel
theorem dX13_common_4 : decode cX13_common 4 = .ok (.iload_n 3, 1) := by decide +kernel
theorem dX13_common_5 : decode cX13_common 5 = .ok (.ifCond .eq 16, 3) := by decide +kernel
theorem dX13_common_8 : decode cX13_common 8 = .ok (.iload_n 2, 1) := by decide +kernel
theorem dX13_common_9 : decode cX13_common 9 = .ok (.iload_n 3, 1) := by decide +kernel
theorem dX13_common_10 : decode cX13_common 10 = .ok (.irem, 1) := by decide +kernel
theorem dX13_common_11 : decode cX13_common 11 = .ok (.istore 4, 2) := by decide +kernel
theorem dX13_common_13 : decode cX13_common 13 = .ok (.iload_n 3, 1) := by decide +kernel
theorem dX13_common_14 : decode cX13_common 14 = .ok (.istore_n 2, 1) := by decide +kernel
theorem dX13_common_15 : decode cX13_common 15 = .ok (.iload 4, 2) := by decide +kernel
theorem dX13_common_17 : decode cX13_common 17 = .ok (.istore_n 3, 1) := by decide +kernel
theorem dX13_common_18 : decode cX13_common 18 = .ok (.goto (-14), 3) := by decide +kernel
theorem dX13_common_21 : decode cX13_common 21 = .ok (.iload_n 2, 1) := by decide +kernel
theorem dX13_common_22 : decode cX13_common 22 = .ok (.ireturn, 1) := by decide +kernel
theorem dX13_known_0 : decode cX13_known 0 = .ok (.aload_n 0, 1) := by decide +kernel
theorem dX13_known_1 : decode cX13_known 1 = .ok (.iload_n 1, 1) := by decide +kernel
theorem dX13_known_2 : decode cX13_known 2 = .ok (.iconst 0, 1) := by decide +kernel
theorem dX13_known_3 : decode cX13_known 3 = .ok (.bipush 7, 2) := by decide +kernel
theorem dX13_known_5 : decode cX13_known 5 = .ok (.invokestatic 204, 3) := by decide +kernel
theorem dX13_known_8 : decode cX13_known 8 = .ok (.ifCond .eq 12, 3) := by decide +kernel
theorem dX13_known_11 : decode cX13_known 11 = .ok (.iload_n 2, 1) := by decide +kernel
theorem dX13_known_12 : decode cX13_known 12 = .ok (.iconst 0, 1) := by decide +kernel
theorem dX13_known_13 : decode cX13_known 13 = .ok (.iconst 1, 1) := by decide +kernel
theorem dX13_known_14 : decode cX13_known 14 = .ok (.invokestatic 204, 3) := by decide +kernel
theorem dX13_known_17 : decode cX13_known 17 = .ok (.ifCond .ne 7, 3) := by decide +kernel
theorem dX13_known_20 : decode cX13_known 20 = .ok (.iconst 1, 1) := by decide +kernel
theorem dX13_known_21 : decode cX13_known 21 = .ok (.goto 4, 3) := by decide +kernel
theorem dX13_known_24 : decode cX13_known 24 = .ok (.iconst 0, 1) := by decide +kernel
theorem dX13_known_25 : decode cX13_known 25 = .ok (.invokevirtual 275, 3) := by decide +kernel
theorem dX13_known_28 : decode cX13_known 28 = .ok (.ifCond .eq 5, 3) := by decide +kernel
theorem dX13_known_31 : decode cX13_known 31 = .ok (.iconst 0, 1) := by decide +kernel
theorem dX13_known_32 : decode cX13_known 32 = .ok (.ireturn, 1) := by decide +kernel
theorem dX13_known_33 : decode cX13_known 33 = .ok (.iconst 0, 1) := by decide +kernel
theorem dX13_known_34 : decode cX13_known 34 = .ok (.istore_n 3, 1) := by decide +kernel
theorem dX13_known_35 : decode cX13_known 35 = .ok (.iconst 0, 1) := by decide +kernel
theorem dX13_known_36 : decode cX13_known 36 = .ok (.istore 4, 2) := by decide +kernel
theorem dX13_known_38 : decode cX13_known 38 = .ok (.iconst 1, 1) := by decide +kernel
theorem dX13_known_39 : decode cX13_known 39 = .ok (.istore 5, 2) := by decide +kernel
theorem dX13_known_41 : decode cX13_known 41 = .ok (.iload 5, 2) := by decide +kernel
theorem dX13_known_43 : decode cX13_known 43 = .ok (.aload_n 0, 1) := by decide +kernel
theorem dX13_known_44 : decode cX13_known 44 = .ok (.getfield 33, 3) := by decide +kernel
theorem dX13_known_47 : decode cX13_known 47 = .ok (.iconst 3, 1) := by decide +kernel
theorem dX13_known_48 : decode cX13_known 48 = .ok (.iaload, 1) := by decide +kernel
theorem dX13_known_49 : decode cX13_known 49 = .ok (.if_icmp .gt 59, 3) := by decide +kernel
theorem dX13_known_52 : decode cX13_known 52 = .ok (.iload_n 3, 1) := by decide +kernel
theorem dX13_known_53 : decode cX13_known 53 = .ok (.aload_n 0, 1) := by decide +kernel
theorem dX13_known_54 : decode cX13_known 54 = .ok (.iload 5, 2) := by decide +kernel
theorem dX13_known_56 : decode cX13_known 56 = .ok (.invokevirtual 335, 3) := by decide +kernel
theorem dX13_known_59 : decode cX13_known 59 = .ok (.iconst 1, 1) := by decide +kernel
theorem dX13_known_60 : decode cX13_known 60 = .ok (.iload_n 1, 1) := by decide +kernel
theorem dX13_known_61 : decode cX13_known 61 = .ok (.ishl, 1) := by decide +kernel
theorem dX13_known_62 : decode cX13_known 62 = .ok (.if_icmp .ne 19, 3) := by decide +kernel
theorem dX13_known_65 : decode cX13_known 65 = .ok (.aload_n 0, 1) := by decide +kernel
theorem dX13_known_66 : decode cX13_known 66 = .ok (.getfield 33, 3) := by decide +kernel
theorem dX13_known_69 : decode cX13_known 69 = .ok (.sipush 432, 3) := by decide +kernel
theorem dX13_known_72 : decode cX13_known 72 = .ok (.iload 5, 2) := by decide +kernel
theorem dX13_known_74 : decode cX13_known 74 = .ok (.iadd, 1) := by decide +kernel
theorem dX13_known_75 : decode cX13_known 75 = .ok (.iconst 1, 1) := by decide +kernel
theorem dX13_known_76 : decode cX13_known 76 = .ok (.isub, 1) := by decide +kernel
theorem dX13_known_77 : decode cX13_known 77 = .ok (.iaload, 1) := by decide +kernel
theorem dX13_known_78 : decode cX13_known 78 = .ok (.goto 4, 3) := by decide +kernel
theorem dX13_known_81 : decode cX13_known 81 = .ok (.iconst 0, 1) := by decide +kernel
theorem dX13_known_82 : decode cX13_known 82 = .ok (.iadd, 1) := by decide +kernel
theorem dX13_known_83 : decode cX13_known 83 = .ok (.istore_n 3, 1) := by decide +kernel
theorem dX13_known_84 : decode cX13_known 84 = .ok (.iload 4, 2) := by decide +kernel
theorem dX13_known_86 : decode cX13_known 86 = .ok (.aload_n 0, 1) := by decide +kernel
theorem dX13_known_87 : decode cX13_known 87 = .ok (.getfield 33, 3) := by decide +kernel
theorem dX13_known_90 : decode cX13_known 90 = .ok (.sipush 432, 3) := by decide +kernel
theorem dX13_known_93 : decode cX13_known 93 = .ok (.iload 5, 2) := by decide +kernel
theorem dX13_known_95 : decode cX13_known 95 = .ok (.iadd, 1) := by decide +kernel
theorem dX13_known_96 : decode cX13_known 96 = .ok (.iconst 1, 1) := by decide +kernel
theorem dX13_known_97 : decode cX13_known 97 = .ok (.isub, 1) := by decide +kernel
theorem dX13_known_98 : decode cX13_known 98 = .ok (.iaload, 1) := by decide +kernel
theorem dX13_known_99 : decode cX13_known 99 = .ok (.iadd, 1) := by decide +kernel
theorem dX13_known_100 : decode cX13_known 100 = .ok (.istore 4, 2) := by decide +kernel
theorem dX13_known_102 : decode cX13_known 102 = .ok (.iinc 5 1, 3) := by decide +kernel
theorem dX13_known_105 : decode cX13_known 105 = .ok (.goto (-64), 3) := by decide +kernel
theorem dX13_known_108 : decode cX13_known 108 = .ok (.iload 4, 2) := by decide +kernel
theorem dX13_known_110 : decode cX13_known 110 = .ok (.ifCond .ne 5, 3) := by decide +kernel
theorem dX13_known_113 : decode cX13_known 113 = .ok (.iload_n 2, 1) := by decide +kernel
theorem dX13_known_114 : decode cX13_known 114 = .ok (.ireturn, 1) := by decide +kernel
theorem dX13_known_115 : decode cX13_known 115 = .ok (.iload_n 2, 1) := by decide +kernel
theorem dX13_known_116 : decode cX13_known 116 = .ok (.ifCond .ne 7, 3) := by decide +kernel
theorem dX13_known_119 : decode cX13_known 119 = .ok (.iload_n 3, 1) := by decide +kernel
theorem dX13_known_120 : decode cX13_known 120 = .ok (.goto 5, 3) := by decide +kernel
theorem dX13_known_123 : decode cX13_known 123 = .ok (.iload 4, 2) := by decide +kernel
theorem dX13_known_125 : decode cX13_known 125 = .ok (.iload 4, 2) := by decide +kernel
theorem dX13_known_127 : decode cX13_known 127 = .ok (.iload_n 3, 1) := by decide +kernel
theorem dX13_known_128 : decode cX13_known 128 = .ok (.invokestatic 348, 3) := by decide +kernel
theorem dX13_known_131 : decode cX13_known 131 = .ok (.idiv, 1) := by decide +kernel
theorem dX13_known_132 : decode cX13_known 132 = .ok (.ireturn, 1) := by decide +kernel
theorem dX13_scans_0 : decode cX13_scans 0 = .ok (.aload_n 0, 1) := by decide +kernel
theorem dX13_scans_1 : decode cX13_scans 1 = .ok (.iconst 0, 1) := by decide +kernel
theorem dX13_scans_2 : decode cX13_scans 2 = .ok (.putfield 1, 3) := by decide +kernel
theorem dX13_scans_5 : decode cX13_scans 5 = .ok (.iload_n 1, 1) := by decide +kernel
theorem dX13_scans_6 : decode cX13_scans 6 = .ok (.iconst 0, 1) := by decide +kernel
theorem dX13_scans_7 : decode cX13_scans 7 = .ok (.sipush 216, 3) := by decide +kernel
theorem dX13_scans_10 : decode cX13_scans 10 = .ok (.invokestatic 204, 3) := by decide +kernel
theorem dX13_scans_13 : decode cX13_scans 13 = .ok (.ifCond .ne 5, 3) := by decide +kernel
theorem dX13_scans_16 : decode cX13_scans 16 = .ok (.iconst (-1), 1) := by decide +kernel
theorem dX13_scans_17 : decode cX13_scans 17 = .ok (.ireturn, 1) := by decide +kernel
theorem dX13_scans_18 : decode cX13_scans 18 = .ok (.iconst 0, 1) := by decide +kernel
theorem dX13_scans_19 : decode cX13_scans 19 = .ok (.istore_n 2, 1) := by decide +kernel
theorem dX13_scans_20 : decode cX13_scans 20 = .ok (.iconst 0, 1) := by decide +kernel
theorem dX13_scans_21 : decode cX13_scans 21 = .ok (.istore_n 3, 1) := by decide +kernel
theorem dX13_scans_22 : decode cX13_scans 22 = .ok (.iload_n 3, 1) := by decide +kernel
theorem dX13_scans_23 : decode cX13_scans 23 = .ok (.aload_n 0, 1) := by decide +kernel
theorem dX13_scans_24 : decode cX13_scans 24 = .ok (.getfield 33, 3) := by decide +kernel
theorem dX13_scans_27 : decode cX13_scans 27 = .ok (.iconst 3, 1) := by decide +kernel
theorem dX13_scans_28 : decode cX13_scans 28 = .ok (.iaload, 1) := by decide +kernel
theorem dX13_scans_29 : decode cX13_scans 29 = .ok (.if_icmp .gt 71, 3) := by decide +kernel
theorem dX13_scans_32 : decode cX13_scans 32 = .ok (.aload_n 0, 1) := by decide +kernel
theorem dX13_scans_33 : decode cX13_scans 33 = .ok (.iload_n 3, 1) := by decide +kernel
theorem dX13_scans_34 : decode cX13_scans 34 = .ok (.invokevirtual 313, 3) := by decide +kernel
theorem dX13_scans_37 : decode cX13_scans 37 = .ok (.iconst 0, 1) := by decide +kernel
theorem dX13_scans_38 : decode cX13_scans 38 = .ok (.istore 4, 2) := by decide +kernel
theorem dX13_scans_40 : decode cX13_scans 40 = .ok (.iconst 0, 1) := by decide +kernel
theorem dX13_scans_41 : decode cX13_scans 41 = .ok (.istore 5, 2) := by decide +kernel
theorem dX13_scans_43 : decode cX13_scans 43 = .ok (.iload 5, 2) := by decide +kernel
theorem dX13_scans_45 : decode cX13_scans 45 = .ok (.aload_n 0, 1) := by decide +kernel
theorem dX13_scans_46 : decode cX13_scans 46 = .ok (.getfield 303, 3) := by decide +kernel
theorem dX13_scans_49 : decode cX13_scans 49 = .ok (.if_icmp .ge 29, 3) := by decide +kernel
theorem dX13_scans_52 : decode cX13_scans 52 = .ok (.iload 4, 2) := by decide +kernel
theorem dX13_scans_54 : decode cX13_scans 54 = .ok (.aload_n 0, 1) := by decide +kernel
theorem dX13_scans_55 : decode cX13_scans 55 = .ok (.getfield 33, 3) := by decide +kernel
theorem dX13_scans_58 : decode cX13_scans 58 = .ok (.bipush 40, 2) := by decide +kernel
theorem dX13_scans_60 : decode cX13_scans 60 = .ok (.aload_n 0, 1) := by decide +kernel
theorem dX13_scans_61 : decode cX13_scans 61 = .ok (.getfield 50, 3) := by decide +kernel
theorem dX13_scans_64 : decode cX13_scans 64 = .ok (.iload 5, 2) := by decide +kernel
theorem dX13_scans_66 : decode cX13_scans 66 = .ok (.iaload, 1) := by decide +kernel
theorem dX13_scans_67 : decode cX13_scans 67 = .ok (.iadd, 1) := by decide +kernel
theorem dX13_scans_68 : decode cX13_scans 68 = .ok (.iaload, 1) := by decide +kernel
theorem dX13_scans_69 : decode cX13_scans 69 = .ok (.iadd, 1) := by decide +kernel
theorem dX13_scans_70 : decode cX13_scans 70 = .ok (.istore 4, 2) := by decide +kernel
theorem dX13_scans_72 : decode cX13_scans 72 = .ok (.iinc 5 1, 3) := by decide +kernel
theorem dX13_scans_75 : decode cX13_scans 75 = .ok (.goto (-32), 3) := by decide +kernel
theorem dX13_scans_78 : decode cX13_scans 78 = .ok (.iload_n 2, 1) := by decide +kernel
theorem dX13_scans_79 : decode cX13_scans 79 = .ok (.iload 4, 2) := by decide +kernel
theorem dX13_scans_81 : decode cX13_scans 81 = .ok (.iload_n 1, 1) := by decide +kernel
theorem dX13_scans_82 : decode cX13_scans 82 = .ok (.if_icmp .ne 9, 3) := by decide +kernel
theorem dX13_scans_85 : decode cX13_scans 85 = .ok (.iconst 1, 1) := by decide +kernel
theorem dX13_scans_86 : decode cX13_scans 86 = .ok (.iload_n 3, 1) := by decide +kernel
theorem dX13_scans_87 : decode cX13_scans 87 = .ok (.ishl, 1) := by decide +kernel
theorem dX13_scans_88 : decode cX13_scans 88 = .ok (.goto 4, 3) := by decide +kernel
theorem dX13_scans_91 : decode cX13_scans 91 = .ok (.iconst 0, 1) := by decide +kernel
theorem dX13_scans_92 : decode cX13_scans 92 = .ok (.ior, 1) := by decide +kernel
theorem dX13_scans_93 : decode cX13_scans 93 = .ok (.istore_n 2, 1) := by decide +kernel
theorem dX13_scans_94 : decode cX13_scans 94 = .ok (.iinc 3 1, 3) := by decide +kernel
theorem dX13_scans_97 : decode cX13_scans 97 = .ok (.goto (-75), 3) := by decide +kernel
theorem dX13_scans_100 : decode cX13_scans 100 = .ok (.iload_n 2, 1) := by decide +kernel
theorem dX13_scans_101 : decode cX13_scans 101 = .ok (.ireturn, 1) := by decide +kernel
theorem dX13_letters_0 : decode cX13_letters 0 = .ok (.aload_n 0, 1) := by decide +kernel
theorem dX13_letters_1 : decode cX13_letters 1 = .ok (.iconst 0, 1) := by decide +kernel
theorem dX13_letters_2 : decode cX13_letters 2 = .ok (.putfield 1, 3) := by decide +kernel
theorem dX13_letters_5 : decode cX13_letters 5 = .ok (.aload_n 0, 1) := by decide +kernel
theorem dX13_letters_6 : decode cX13_letters 6 = .ok (.iload_n 1, 1) := by decide +kernel
theorem dX13_letters_7 : decode cX13_letters 7 = .ok (.invokevirtual 310, 3) := by decide +kernel
theorem dX13_letters_10 : decode cX13_letters 10 = .ok (.ifCond .ne 7, 3) := by decide +kernel
theorem dX13_letters_13 : decode cX13_letters 13 = .ok (.ldc2_w 316, 3) := by decide +kernel
theorem dX13_letters_16 : decode cX13_letters 16 = .ok (.lreturn, 1) := by decide +kernel
theorem dX13_letters_17 : decode cX13_letters 17 = .ok (.aload_n 0, 1) := by decide +kernel
theorem dX13_letters_18 : decode cX13_letters 18 = .ok (.aload_n 0, 1) := by decide +kernel
theorem dX13_letters_19 : decode cX13_letters 19 = .ok (.getfield 33, 3) := by decide +kernel
theorem dX13_letters_22 : decode cX13_letters 22 = .ok (.iconst 3, 1) := by decide +kernel
theorem dX13_letters_23 : decode cX13_letters 23 = .ok (.iaload, 1) := by decide +kernel
theorem dX13_letters_24 : decode cX13_letters 24 = .ok (.putfield 294, 3) := by decide +kernel
theorem dX13_letters_27 : decode cX13_letters 27 = .ok (.aload_n 0, 1) := by decide +kernel
theorem dX13_letters_28 : decode cX13_letters 28 = .ok (.aload_n 0, 1) := by decide +kernel
theorem dX13_letters_29 : decode cX13_letters 29 = .ok (.getfield 33, 3) := by decide +kernel
theorem dX13_letters_32 : decode cX13_letters 32 = .ok (.iconst 4, 1) := by decide +kernel
theorem dX13_letters_33 : decode cX13_letters 33 = .ok (.iaload, 1) := by decide +kernel
theorem dX13_letters_34 : decode cX13_letters 34 = .ok (.putfield 297, 3) := by decide +kernel
theorem dX13_letters_37 : decode cX13_letters 37 = .ok (.iconst 0, 1) := by decide +kernel
theorem dX13_letters_38 : decode cX13_letters 38 = .ok (.istore_n 2, 1) := by decide +kernel
theorem dX13_letters_39 : decode cX13_letters 39 = .ok (.iconst 0, 1) := by decide +kernel
theorem dX13_letters_40 : decode cX13_letters 40 = .ok (.istore_n 3, 1) := by decide +kernel
theorem dX13_letters_41 : decode cX13_letters 41 = .ok (.iconst 0, 1) := by decide +kernel
theorem dX13_letters_42 : decode cX13_letters 42 = .ok (.istore 4, 2) := by decide +kernel
theorem dX13_letters_44 : decode cX13_letters 44 = .ok (.iload 4, 2) := by decide +kernel
theorem dX13_letters_46 : decode cX13_letters 46 = .ok (.aload_n 0, 1) := by decide +kernel
theorem dX13_letters_47 : decode cX13_letters 47 = .ok (.getfield 33, 3) := by decide +kernel
theorem dX13_letters_50 : decode cX13_letters 50 = .ok (.sipush 437, 3) := by decide +kernel
theorem dX13_letters_53 : decode cX13_letters 53 = .ok (.iaload, 1) := by decide +kernel
theorem dX13_letters_54 : decode cX13_letters 54 = .ok (.if_icmp .ge 91, 3) := by decide +kernel
theorem dX13_letters_57 : decode cX13_letters 57 = .ok (.aload_n 0, 1) := by decide +kernel
theorem dX13_letters_58 : decode cX13_letters 58 = .ok (.getfield 40, 3) := by decide +kernel
theorem dX13_letters_61 : decode cX13_letters 61 = .ok (.bipush 8, 2) := by decide +kernel
theorem dX13_letters_63 : decode cX13_letters 63 = .ok (.aload_n 0, 1) := by decide +kernel
theorem dX13_letters_64 : decode cX13_letters 64 = .ok (.getfield 33, 3) := by decide +kernel
theorem dX13_letters_67 : decode cX13_letters 67 = .ok (.sipush 438, 3) := by decide +kernel
theorem dX13_letters_70 : decode cX13_letters 70 = .ok (.iload 4, 2) := by decide +kernel
theorem dX13_letters_72 : decode cX13_letters 72 = .ok (.iadd, 1) := by decide +kernel
theorem dX13_letters_73 : decode cX13_letters 73 = .ok (.iaload, 1) := by decide +kernel
theorem dX13_letters_74 : decode cX13_letters 74 = .ok (.iadd, 1) := by decide +kernel
theorem dX13_letters_75 : decode cX13_letters 75 = .ok (.laload, 1) := by decide +kernel
theorem dX13_letters_76 : decode cX13_letters 76 = .ok (.lstore 5, 2) := by decide +kernel
theorem dX13_letters_78 : decode cX13_letters 78 = .ok (.bipush 56, 2) := by decide +kernel
theorem dX13_letters_80 : decode cX13_letters 80 = .ok (.istore 7, 2) := by decide +kernel
theorem dX13_letters_82 : decode cX13_letters 82 = .ok (.iload 7, 2) := by decide +kernel
theorem dX13_letters_84 : decode cX13_letters 84 = .ok (.ifCond .lt 55, 3) := by decide +kernel
theorem dX13_letters_87 : decode cX13_letters 87 = .ok (.lload 5, 2) := by decide +kernel
theorem dX13_letters_89 : decode cX13_letters 89 = .ok (.iload 7, 2) := by decide +kernel
theorem dX13_letters_91 : decode cX13_letters 91 = .ok (.lshr, 1) := by decide +kernel
theorem dX13_letters_92 : decode cX13_letters 92 = .ok (.ldc2_w 318, 3) := by decide +kernel
theorem dX13_letters_95 : decode cX13_letters 95 = .ok (.land, 1) := by decide +kernel
theorem dX13_letters_96 : decode cX13_letters 96 = .ok (.l2i, 1) := by decide +kernel
theorem dX13_letters_97 : decode cX13_letters 97 = .ok (.istore 8, 2) := by decide +kernel
theorem dX13_letters_99 : decode cX13_letters 99 = .ok (.iload 8, 2) := by decide +kernel
theorem dX13_letters_101 : decode cX13_letters 101 = .ok (.ifCond .ne 6, 3) := by decide +kernel
theorem dX13_letters_104 : decode cX13_letters 104 = .ok (.goto 29, 3) := by decide +kernel
theorem dX13_letters_107 : decode cX13_letters 107 = .ok (.iinc 2 1, 3) := by decide +kernel
theorem dX13_letters_110 : decode cX13_letters 110 = .ok (.aload_n 0, 1) := by decide +kernel
theorem dX13_letters_111 : decode cX13_letters 111 = .ok (.iload_n 1, 1) := by decide +kernel
theorem dX13_letters_112 : decode cX13_letters 112 = .ok (.iload_n 2, 1) := by decide +kernel
theorem dX13_letters_113 : decode cX13_letters 113 = .ok (.invokevirtual 300, 3) := by decide +kernel
theorem dX13_letters_116 : decode cX13_letters 116 = .ok (.ifCond .eq 6, 3) := by decide +kernel
theorem dX13_letters_119 : decode cX13_letters 119 = .ok (.goto 14, 3) := by decide +kernel
theorem dX13_letters_122 : decode cX13_letters 122 = .ok (.aload_n 0, 1) := by decide +kernel
theorem dX13_letters_123 : decode cX13_letters 123 = .ok (.getfield 75, 3) := by decide +kernel
theorem dX13_letters_126 : decode cX13_letters 126 = .ok (.iload_n 3, 1) := by decide +kernel
theorem dX13_letters_127 : decode cX13_letters 127 = .ok (.iload 8, 2) := by decide +kernel
theorem dX13_letters_129 : decode cX13_letters 129 = .ok (.iastore, 1) := by decide +kernel
theorem dX13_letters_130 : decode cX13_letters 130 = .ok (.iinc 3 1, 3) := by decide +kernel
theorem dX13_letters_133 : decode cX13_letters 133 = .ok (.iinc 7 (-8), 3) := by decide +kernel
theorem dX13_letters_136 : decode cX13_letters 136 = .ok (.goto (-54), 3) := by decide +kernel
theorem dX13_letters_139 : decode cX13_letters 139 = .ok (.iinc 4 1, 3) := by decide +kernel
theorem dX13_letters_142 : decode cX13_letters 142 = .ok (.goto (-98), 3) := by decide +kernel
theorem dX13_letters_145 : decode cX13_letters 145 = .ok (.aload_n 0, 1) := by decide +kernel
theorem dX13_letters_146 : decode cX13_letters 146 = .ok (.getfield 78, 3) := by decide +kernel
theorem dX13_letters_149 : decode cX13_letters 149 = .ok (.iconst 0, 1) := by decide +kernel
theorem dX13_letters_150 : decode cX13_letters 150 = .ok (.lconst 1, 1) := by decide +kernel
theorem dX13_letters_151 : decode cX13_letters 151 = .ok (.lastore, 1) := by decide +kernel
theorem dX13_letters_152 : decode cX13_letters 152 = .ok (.iconst 1, 1) := by decide +kernel
theorem dX13_letters_153 : decode cX13_letters 153 = .ok (.istore 4, 2) := by decide +kernel
theorem dX13_letters_155 : decode cX13_letters 155 = .ok (.iload 4, 2) := by decide +kernel
theorem dX13_letters_157 : decode cX13_letters 157 = .ok (.iload_n 3, 1) := by decide +kernel
theorem dX13_letters_158 : decode cX13_letters 158 = .ok (.if_icmp .gt 162, 3) := by decide +kernel
theorem dX13_letters_161 : decode cX13_letters 161 = .ok (.aload_n 0, 1) := by decide +kernel
theorem dX13_letters_162 : decode cX13_letters 162 = .ok (.getfield 78, 3) := by decide +kernel
theorem dX13_letters_165 : decode cX13_letters 165 = .ok (.iload 4, 2) := by decide +kernel
theorem dX13_letters_167 : decode cX13_letters 167 = .ok (.lconst 0, 1) := by decide +kernel
theorem dX13_letters_168 : decode cX13_letters 168 = .ok (.lastore, 1) := by decide +kernel
theorem dX13_letters_169 : decode cX13_letters 169 = .ok (.lconst 0, 1) := by decide +kernel
theorem dX13_letters_170 : decode cX13_letters 170 = .ok (.lstore 5, 2) := by decide +kernel
theorem dX13_letters_172 : decode cX13_letters 172 = .ok (.iload 4, 2) := by decide +kernel
theorem dX13_letters_174 : decode cX13_letters 174 = .ok (.iconst 1, 1) := by decide +kernel
theorem dX13_letters_175 : decode cX13_letters 175 = .ok (.isub, 1) := by decide +kernel
theorem dX13_letters_176 : decode cX13_letters 176 = .ok (.istore 7, 2) := by decide +kernel
theorem dX13_letters_178 : decode cX13_letters 178 = .ok (.iload 7, 2) := by decide +kernel
theorem dX13_letters_180 : decode cX13_letters 180 = .ok (.ifCond .lt 100, 3) := by decide +kernel
theorem dX13_letters_183 : decode cX13_letters 183 = .ok (.iload 4, 2) := by decide +kernel
theorem dX13_letters_185 : decode cX13_letters 185 = .ok (.iload 7, 2) := by decide +kernel
theorem dX13_letters_187 : decode cX13_letters 187 = .ok (.isub, 1) := by decide +kernel
theorem dX13_letters_188 : decode cX13_letters 188 = .ok (.bipush 6, 2) := by decide +kernel
theorem dX13_letters_190 : decode cX13_letters 190 = .ok (.if_icmp .gt 90, 3) := by decide +kernel
theorem dX13_letters_193 : decode cX13_letters 193 = .ok (.lload 5, 2) := by decide +kernel
theorem dX13_letters_195 : decode cX13_letters 195 = .ok (.aload_n 0, 1) := by decide +kernel
theorem dX13_letters_196 : decode cX13_letters 196 = .ok (.getfield 75, 3) := by decide +kernel
theorem dX13_letters_199 : decode cX13_letters 199 = .ok (.iload 7, 2) := by decide +kernel
theorem dX13_letters_201 : decode cX13_letters 201 = .ok (.iaload, 1) := by decide +kernel
theorem dX13_letters_202 : decode cX13_letters 202 = .ok (.i2l, 1) := by decide +kernel
theorem dX13_letters_203 : decode cX13_letters 203 = .ok (.bipush 8, 2) := by decide +kernel
theorem dX13_letters_205 : decode cX13_letters 205 = .ok (.iload 4, 2) := by decide +kernel
theorem dX13_letters_207 : decode cX13_letters 207 = .ok (.iconst 1, 1) := by decide +kernel
theorem dX13_letters_208 : decode cX13_letters 208 = .ok (.isub, 1) := by decide +kernel
theorem dX13_letters_209 : decode cX13_letters 209 = .ok (.iload 7, 2) := by decide +kernel
theorem dX13_letters_211 : decode cX13_letters 211 = .ok (.isub, 1) := by decide +kernel
theorem dX13_letters_212 : decode cX13_letters 212 = .ok (.imul, 1) := by decide +kernel
theorem dX13_letters_213 : decode cX13_letters 213 = .ok (.lshl, 1) := by decide +kernel
theorem dX13_letters_214 : decode cX13_letters 214 = .ok (.lor, 1) := by decide +kernel
theorem dX13_letters_215 : decode cX13_letters 215 = .ok (.lstore 5, 2) := by decide +kernel
theorem dX13_letters_217 : decode cX13_letters 217 = .ok (.iconst 0, 1) := by decide +kernel
theorem dX13_letters_218 : decode cX13_letters 218 = .ok (.istore 8, 2) := by decide +kernel
theorem dX13_letters_220 : decode cX13_letters 220 = .ok (.iload 8, 2) := by decide +kernel
theorem dX13_letters_222 : decode cX13_letters 222 = .ok (.aload_n 0, 1) := by decide +kernel
theorem dX13_letters_223 : decode cX13_letters 223 = .ok (.getfield 33, 3) := by decide +kernel
theorem dX13_letters_226 : decode cX13_letters 226 = .ok (.iconst 2, 1) := by decide +kernel
theorem dX13_letters_227 : decode cX13_letters 227 = .ok (.iaload, 1) := by decide +kernel
theorem dX13_letters_228 : decode cX13_letters 228 = .ok (.if_icmp .ge 46, 3) := by decide +kernel
theorem dX13_letters_231 : decode cX13_letters 231 = .ok (.aload_n 0, 1) := by decide +kernel
theorem dX13_letters_232 : decode cX13_letters 232 = .ok (.getfield 78, 3) := by decide +kernel
theorem dX13_letters_235 : decode cX13_letters 235 = .ok (.iload 4, 2) := by decide +kernel
theorem dX13_letters_237 : decode cX13_letters 237 = .ok (.dup2, 1) := by decide +kernel
theorem dX13_letters_238 : decode cX13_letters 238 = .ok (.laload, 1) := by decide +kernel
theorem dX13_letters_239 : decode cX13_letters 239 = .ok (.aload_n 0, 1) := by decide +kernel
theorem dX13_letters_240 : decode cX13_letters 240 = .ok (.getfield 40, 3) := by decide +kernel
theorem dX13_letters_243 : decode cX13_letters 243 = .ok (.bipush 8, 2) := by decide +kernel
theorem dX13_letters_245 : decode cX13_letters 245 = .ok (.iload 8, 2) := by decide +kernel
theorem dX13_letters_247 : decode cX13_letters 247 = .ok (.iadd, 1) := by decide +kernel
theorem dX13_letters_248 : decode cX13_letters 248 = .ok (.laload, 1) := by decide +kernel
theorem dX13_letters_249 : decode cX13_letters 249 = .ok (.lload 5, 2) := by decide +kernel
theorem dX13_letters_251 : decode cX13_letters 251 = .ok (.lcmp, 1) := by decide +kernel
theorem dX13_letters_252 : decode cX13_letters 252 = .ok (.ifCond .ne 13, 3) := by decide +kernel
theorem dX13_letters_255 : decode cX13_letters 255 = .ok (.aload_n 0, 1) := by decide +kernel
theorem dX13_letters_256 : decode cX13_letters 256 = .ok (.getfield 78, 3) := by decide +kernel
theorem dX13_letters_259 : decode cX13_letters 259 = .ok (.iload 7, 2) := by decide +kernel
theorem dX13_letters_261 : decode cX13_letters 261 = .ok (.laload, 1) := by decide +kernel
theorem dX13_letters_262 : decode cX13_letters 262 = .ok (.goto 4, 3) := by decide +kernel
theorem dX13_letters_265 : decode cX13_letters 265 = .ok (.lconst 0, 1) := by decide +kernel
theorem dX13_letters_266 : decode cX13_letters 266 = .ok (.ladd, 1) := by decide +kernel
theorem dX13_letters_267 : decode cX13_letters 267 = .ok (.lastore, 1) := by decide +kernel
theorem dX13_letters_268 : decode cX13_letters 268 = .ok (.iinc 8 1, 3) := by decide +kernel
theorem dX13_letters_271 : decode cX13_letters 271 = .ok (.goto (-51), 3) := by decide +kernel
theorem dX13_letters_274 : decode cX13_letters 274 = .ok (.iinc 7 (-1), 3) := by decide +kernel
theorem dX13_letters_277 : decode cX13_letters 277 = .ok (.goto (-99), 3) := by decide +kernel
theorem dX13_letters_280 : decode cX13_letters 280 = .ok (.aload_n 0, 1) := by decide +kernel
theorem dX13_letters_281 : decode cX13_letters 281 = .ok (.getfield 78, 3) := by decide +kernel
theorem dX13_letters_284 : decode cX13_letters 284 = .ok (.iload 4, 2) := by decide +kernel
theorem dX13_letters_286 : decode cX13_letters 286 = .ok (.aload_n 0, 1) := by decide +kernel
theorem dX13_letters_287 : decode cX13_letters 287 = .ok (.getfield 78, 3) := by decide +kernel
theorem dX13_letters_290 : decode cX13_letters 290 = .ok (.iload 4, 2) := by decide +kernel
theorem dX13_letters_292 : decode cX13_letters 292 = .ok (.laload, 1) := by decide +kernel
theorem dX13_letters_293 : decode cX13_letters 293 = .ok (.ldc2_w 351, 3) := by decide +kernel
theorem dX13_letters_296 : decode cX13_letters 296 = .ok (.lcmp, 1) := by decide +kernel
theorem dX13_letters_297 : decode cX13_letters 297 = .ok (.ifCond .le 9, 3) := by decide +kernel
theorem dX13_letters_300 : decode cX13_letters 300 = .ok (.ldc2_w 351, 3) := by decide +kernel
theorem dX13_letters_303 : decode cX13_letters 303 = .ok (.goto 10, 3) := by decide +kernel
theorem dX13_letters_306 : decode cX13_letters 306 = .ok (.aload_n 0, 1) := by decide +kernel
theorem dX13_letters_307 : decode cX13_letters 307 = .ok (.getfield 78, 3) := by decide +kernel
theorem dX13_letters_310 : decode cX13_letters 310 = .ok (.iload 4, 2) := by decide +kernel
theorem dX13_letters_312 : decode cX13_letters 312 = .ok (.laload, 1) := by decide +kernel
theorem dX13_letters_313 : decode cX13_letters 313 = .ok (.lastore, 1) := by decide +kernel
theorem dX13_letters_314 : decode cX13_letters 314 = .ok (.iinc 4 1, 3) := by decide +kernel
theorem dX13_letters_317 : decode cX13_letters 317 = .ok (.goto (-162), 3) := by decide +kernel
theorem dX13_letters_320 : decode cX13_letters 320 = .ok (.aload_n 0, 1) := by decide +kernel
theorem dX13_letters_321 : decode cX13_letters 321 = .ok (.getfield 78, 3) := by decide +kernel
theorem dX13_letters_324 : decode cX13_letters 324 = .ok (.iload_n 3, 1) := by decide +kernel
theorem dX13_letters_325 : decode cX13_letters 325 = .ok (.laload, 1) := by decide +kernel
theorem dX13_letters_326 : decode cX13_letters 326 = .ok (.lreturn, 1) := by decide +kernel
theorem dX13_begin_0 : decode cX13_begin 0 = .ok (.aload_n 0, 1) := by decide +kernel
theorem dX13_begin_1 : decode cX13_begin 1 = .ok (.iload_n 1, 1) := by decide +kernel
theorem dX13_begin_2 : decode cX13_begin 2 = .ok (.putfield 353, 3) := by decide +kernel
theorem dX13_begin_5 : decode cX13_begin 5 = .ok (.aload_n 0, 1) := by decide +kernel
theorem dX13_begin_6 : decode cX13_begin 6 = .ok (.iconst 0, 1) := by decide +kernel
theorem dX13_begin_7 : decode cX13_begin 7 = .ok (.putfield 356, 3) := by decide +kernel
theorem dX13_begin_10 : decode cX13_begin 10 = .ok (.aload_n 0, 1) := by decide +kernel
theorem dX13_begin_11 : decode cX13_begin 11 = .ok (.getfield 87, 3) := by decide +kernel
theorem dX13_begin_14 : decode cX13_begin 14 = .ok (.iconst 0, 1) := by decide +kernel
theorem dX13_begin_15 : decode cX13_begin 15 = .ok (.iconst 0, 1) := by decide +kernel
theorem dX13_begin_16 : decode cX13_begin 16 = .ok (.iastore, 1) := by decide +kernel
theorem dX13_begin_17 : decode cX13_begin 17 = .ok (.iconst 0, 1) := by decide +kernel
theorem dX13_begin_18 : decode cX13_begin 18 = .ok (.istore_n 2, 1) := by decide +kernel
theorem dX13_begin_19 : decode cX13_begin 19 = .ok (.iload_n 2, 1) := by decide +kernel
theorem dX13_begin_20 : decode cX13_begin 20 = .ok (.aload_n 0, 1) := by decide +kernel
theorem dX13_begin_21 : decode cX13_begin 21 = .ok (.getfield 294, 3) := by decide +kernel
theorem dX13_begin_24 : decode cX13_begin 24 = .ok (.if_icmp .gt 25, 3) := by decide +kernel
theorem dX13_begin_27 : decode cX13_begin 27 = .ok (.aload_n 0, 1) := by decide +kernel
theorem dX13_begin_28 : decode cX13_begin 28 = .ok (.getfield 81, 3) := by decide +kernel
theorem dX13_begin_31 : decode cX13_begin 31 = .ok (.iload_n 2, 1) := by decide +kernel
theorem dX13_begin_32 : decode cX13_begin 32 = .ok (.ldc2_w 316, 3) := by decide +kernel
theorem dX13_begin_35 : decode cX13_begin 35 = .ok (.lastore, 1) := by decide +kernel
theorem dX13_begin_36 : decode cX13_begin 36 = .ok (.aload_n 0, 1) := by decide +kernel
theorem dX13_begin_37 : decode cX13_begin 37 = .ok (.getfield 93, 3) := by decide +kernel
theorem dX13_begin_40 : decode cX13_begin 40 = .ok (.iload_n 2, 1) := by decide +kernel
theorem dX13_begin_41 : decode cX13_begin 41 = .ok (.iconst 0, 1) := by decide +kernel
theorem dX13_begin_42 : decode cX13_begin 42 = .ok (.iastore, 1) := by decide +kernel
theorem dX13_begin_43 : decode cX13_begin 43 = .ok (.iinc 2 1, 3) := by decide +kernel
theorem dX13_begin_46 : decode cX13_begin 46 = .ok (.goto (-27), 3) := by decide +kernel
theorem dX13_begin_49 : decode cX13_begin 49 = .ok (.return_, 1) := by decide +kernel
theorem dX13_step_0 : decode cX13_step 0 = .ok (.aload_n 0, 1) := by decide +kernel
theorem dX13_step_1 : decode cX13_step 1 = .ok (.getfield 90, 3) := by decide +kernel
theorem dX13_step_4 : decode cX13_step 4 = .ok (.aload_n 0, 1) := by decide +kernel
theorem dX13_step_5 : decode cX13_step 5 = .ok (.getfield 356, 3) := by decide +kernel
theorem dX13_step_8 : decode cX13_step 8 = .ok (.iload_n 1, 1) := by decide +kernel
theorem dX13_step_9 : decode cX13_step 9 = .ok (.iastore, 1) := by decide +kernel
theorem dX13_step_10 : decode cX13_step 10 = .ok (.iconst 0, 1) := by decide +kernel
theorem dX13_step_11 : decode cX13_step 11 = .ok (.istore_n 2, 1) := by decide +kernel
theorem dX13_step_12 : decode cX13_step 12 = .ok (.iload_n 2, 1) := by decide +kernel
theorem dX13_step_13 : decode cX13_step 13 = .ok (.aload_n 0, 1) := by decide +kernel
theorem dX13_step_14 : decode cX13_step 14 = .ok (.getfield 294, 3) := by decide +kernel
theorem dX13_step_17 : decode cX13_step 17 = .ok (.if_icmp .gt 100, 3) := by decide +kernel
theorem dX13_step_20 : decode cX13_step 20 = .ok (.bipush 6, 2) := by decide +kernel
theorem dX13_step_22 : decode cX13_step 22 = .ok (.aload_n 0, 1) := by decide +kernel
theorem dX13_step_23 : decode cX13_step 23 = .ok (.getfield 356, 3) := by decide +kernel
theorem dX13_step_26 : decode cX13_step 26 = .ok (.imul, 1) := by decide +kernel
theorem dX13_step_27 : decode cX13_step 27 = .ok (.iload_n 2, 1) := by decide +kernel
theorem dX13_step_28 : decode cX13_step 28 = .ok (.iadd, 1) := by decide +kernel
theorem dX13_step_29 : decode cX13_step 29 = .ok (.istore_n 3, 1) := by decide +kernel
theorem dX13_step_30 : decode cX13_step 30 = .ok (.aload_n 0, 1) := by decide +kernel
theorem dX13_step_31 : decode cX13_step 31 = .ok (.iload_n 2, 1) := by decide +kernel
theorem dX13_step_32 : decode cX13_step 32 = .ok (.aload_n 0, 1) := by decide +kernel
theorem dX13_step_33 : decode cX13_step 33 = .ok (.getfield 356, 3) := by decide +kernel
theorem dX13_step_36 : decode cX13_step 36 = .ok (.iconst 1, 1) := by decide +kernel
theorem dX13_step_37 : decode cX13_step 37 = .ok (.iadd, 1) := by decide +kernel
theorem dX13_step_38 : decode cX13_step 38 = .ok (.invokevirtual 300, 3) := by decide +kernel
theorem dX13_step_41 : decode cX13_step 41 = .ok (.istore 4, 2) := by decide +kernel
theorem dX13_step_43 : decode cX13_step 43 = .ok (.aload_n 0, 1) := by decide +kernel
theorem dX13_step_44 : decode cX13_step 44 = .ok (.getfield 81, 3) := by decide +kernel
theorem dX13_step_47 : decode cX13_step 47 = .ok (.iload_n 3, 1) := by decide +kernel
theorem dX13_step_48 : decode cX13_step 48 = .ok (.bipush 6, 2) := by decide +kernel
theorem dX13_step_50 : decode cX13_step 50 = .ok (.iadd, 1) := by decide +kernel
theorem dX13_step_51 : decode cX13_step 51 = .ok (.iload 4, 2) := by decide +kernel
theorem dX13_step_53 : decode cX13_step 53 = .ok (.ifCond .eq 12, 3) := by decide +kernel
theorem dX13_step_56 : decode cX13_step 56 = .ok (.aload_n 0, 1) := by decide +kernel
theorem dX13_step_57 : decode cX13_step 57 = .ok (.getfield 81, 3) := by decide +kernel
theorem dX13_step_60 : decode cX13_step 60 = .ok (.iload_n 3, 1) := by decide +kernel
theorem dX13_step_61 : decode cX13_step 61 = .ok (.laload, 1) := by decide +kernel
theorem dX13_step_62 : decode cX13_step 62 = .ok (.goto 14, 3) := by decide +kernel
theorem dX13_step_65 : decode cX13_step 65 = .ok (.aload_n 0, 1) := by decide +kernel
theorem dX13_step_66 : decode cX13_step 66 = .ok (.aload_n 0, 1) := by decide +kernel
theorem dX13_step_67 : decode cX13_step 67 = .ok (.getfield 81, 3) := by decide +kernel
theorem dX13_step_70 : decode cX13_step 70 = .ok (.iload_n 3, 1) := by decide +kernel
theorem dX13_step_71 : decode cX13_step 71 = .ok (.laload, 1) := by decide +kernel
theorem dX13_step_72 : decode cX13_step 72 = .ok (.iload_n 1, 1) := by decide +kernel
theorem dX13_step_73 : decode cX13_step 73 = .ok (.invokevirtual 320, 3) := by decide +kernel
theorem dX13_step_76 : decode cX13_step 76 = .ok (.lastore, 1) := by decide +kernel
theorem dX13_step_77 : decode cX13_step 77 = .ok (.aload_n 0, 1) := by decide +kernel
theorem dX13_step_78 : decode cX13_step 78 = .ok (.getfield 93, 3) := by decide +kernel
theorem dX13_step_81 : decode cX13_step 81 = .ok (.iload_n 3, 1) := by decide +kernel
theorem dX13_step_82 : decode cX13_step 82 = .ok (.bipush 6, 2) := by decide +kernel
theorem dX13_step_84 : decode cX13_step 84 = .ok (.iadd, 1) := by decide +kernel
theorem dX13_step_85 : decode cX13_step 85 = .ok (.aload_n 0, 1) := by decide +kernel
theorem dX13_step_86 : decode cX13_step 86 = .ok (.getfield 93, 3) := by decide +kernel
theorem dX13_step_89 : decode cX13_step 89 = .ok (.iload_n 3, 1) := by decide +kernel
theorem dX13_step_90 : decode cX13_step 90 = .ok (.iaload, 1) := by decide +kernel
theorem dX13_step_91 : decode cX13_step 91 = .ok (.iload 4, 2) := by decide +kernel
theorem dX13_step_93 : decode cX13_step 93 = .ok (.ifCond .eq 7, 3) := by decide +kernel
theorem dX13_step_96 : decode cX13_step 96 = .ok (.iconst 0, 1) := by decide +kernel
theorem dX13_step_97 : decode cX13_step 97 = .ok (.goto 12, 3) := by decide +kernel
theorem dX13_step_100 : decode cX13_step 100 = .ok (.aload_n 0, 1) := by decide +kernel
theorem dX13_step_101 : decode cX13_step 101 = .ok (.getfield 33, 3) := by decide +kernel
theorem dX13_step_104 : decode cX13_step 104 = .ok (.bipush 40, 2) := by decide +kernel
theorem dX13_step_106 : decode cX13_step 106 = .ok (.iload_n 1, 1) := by decide +kernel
theorem dX13_step_107 : decode cX13_step 107 = .ok (.iadd, 1) := by decide +kernel
theorem dX13_step_108 : decode cX13_step 108 = .ok (.iaload, 1) := by decide +kernel
theorem dX13_step_109 : decode cX13_step 109 = .ok (.iadd, 1) := by decide +kernel
theorem dX13_step_110 : decode cX13_step 110 = .ok (.iastore, 1) := by decide +kernel
theorem dX13_step_111 : decode cX13_step 111 = .ok (.iinc 2 1, 3) := by decide +kernel
theorem dX13_step_114 : decode cX13_step 114 = .ok (.goto (-102), 3) := by decide +kernel
theorem dX13_step_117 : decode cX13_step 117 = .ok (.aload_n 0, 1) := by decide +kernel
theorem dX13_step_118 : decode cX13_step 118 = .ok (.dup, 1) := by decide +kernel
theorem dX13_step_119 : decode cX13_step 119 = .ok (.getfield 356, 3) := by decide +kernel
theorem dX13_step_122 : decode cX13_step 122 = .ok (.iconst 1, 1) := by decide +kernel
theorem dX13_step_123 : decode cX13_step 123 = .ok (.iadd, 1) := by decide +kernel
theorem dX13_step_124 : decode cX13_step 124 = .ok (.putfield 356, 3) := by decide +kernel
theorem dX13_step_127 : decode cX13_step 127 = .ok (.return_, 1) := by decide +kernel
theorem dX13_nextRow_0 : decode cX13_nextRow 0 = .ok (.aload_n 0, 1) := by decide +kernel
theorem dX13_nextRow_1 : decode cX13_nextRow 1 = .ok (.getfield 356, 3) := by decide +kernel
theorem dX13_nextRow_4 : decode cX13_nextRow 4 = .ok (.aload_n 0, 1) := by decide +kernel
theorem dX13_nextRow_5 : decode cX13_nextRow 5 = .ok (.getfield 353, 3) := by decide +kernel
theorem dX13_nextRow_8 : decode cX13_nextRow 8 = .ok (.if_icmp .ne 13, 3) := by decide +kernel
theorem dX13_nextRow_11 : decode cX13_nextRow 11 = .ok (.aload_n 0, 1) := by decide +kernel
theorem dX13_nextRow_12 : decode cX13_nextRow 12 = .ok (.dup, 1) := by decide +kernel
theorem dX13_nextRow_13 : decode cX13_nextRow 13 = .ok (.getfield 356, 3) := by decide +kernel
theorem dX13_nextRow_16 : decode cX13_nextRow 16 = .ok (.iconst 1, 1) := by decide +kernel
theorem dX13_nextRow_17 : decode cX13_nextRow 17 = .ok (.isub, 1) := by decide +kernel
theorem dX13_nextRow_18 : decode cX13_nextRow 18 = .ok (.putfield 356, 3) := by decide +kernel
theorem dX13_nextRow_21 : decode cX13_nextRow 21 = .ok (.aload_n 0, 1) := by decide +kernel
theorem dX13_nextRow_22 : decode cX13_nextRow 22 = .ok (.getfield 356, 3) := by decide +kernel
theorem dX13_nextRow_25 : decode cX13_nextRow 25 = .ok (.ifCond .lt 80, 3) := by decide +kernel
theorem dX13_nextRow_28 : decode cX13_nextRow 28 = .ok (.aload_n 0, 1) := by decide +kernel
theorem dX13_nextRow_29 : decode cX13_nextRow 29 = .ok (.getfield 87, 3) := by decide +kernel
theorem dX13_nextRow_32 : decode cX13_nextRow 32 = .ok (.aload_n 0, 1) := by decide +kernel
theorem dX13_nextRow_33 : decode cX13_nextRow 33 = .ok (.getfield 356, 3) := by decide +kernel
theorem dX13_nextRow_36 : decode cX13_nextRow 36 = .ok (.iaload, 1) := by decide +kernel
theorem dX13_nextRow_37 : decode cX13_nextRow 37 = .ok (.istore_n 1, 1) := by decide +kernel
theorem dX13_nextRow_38 : decode cX13_nextRow 38 = .ok (.aload_n 0, 1) := by decide +kernel
theorem dX13_nextRow_39 : decode cX13_nextRow 39 = .ok (.getfield 87, 3) := by decide +kernel
theorem dX13_nextRow_42 : decode cX13_nextRow 42 = .ok (.aload_n 0, 1) := by decide +kernel
theorem dX13_nextRow_43 : decode cX13_nextRow 43 = .ok (.getfield 356, 3) := by decide +kernel
theorem dX13_nextRow_46 : decode cX13_nextRow 46 = .ok (.dup2, 1) := by decide +kernel
theorem dX13_nextRow_47 : decode cX13_nextRow 47 = .ok (.iaload, 1) := by decide +kernel
theorem dX13_nextRow_48 : decode cX13_nextRow 48 = .ok (.iconst 1, 1) := by decide +kernel
theorem dX13_nextRow_49 : decode cX13_nextRow 49 = .ok (.iadd, 1) := by decide +kernel
theorem dX13_nextRow_50 : decode cX13_nextRow 50 = .ok (.iastore, 1) := by decide +kernel
theorem dX13_nextRow_51 : decode cX13_nextRow 51 = .ok (.iload_n 1, 1) := by decide +kernel
theorem dX13_nextRow_52 : decode cX13_nextRow 52 = .ok (.aload_n 0, 1) := by decide +kernel
theorem dX13_nextRow_53 : decode cX13_nextRow 53 = .ok (.getfield 33, 3) := by decide +kernel
theorem dX13_nextRow_56 : decode cX13_nextRow 56 = .ok (.iconst 2, 1) := by decide +kernel
theorem dX13_nextRow_57 : decode cX13_nextRow 57 = .ok (.iaload, 1) := by decide +kernel
theorem dX13_nextRow_58 : decode cX13_nextRow 58 = .ok (.if_icmp .lt 16, 3) := by decide +kernel
theorem dX13_nextRow_61 : decode cX13_nextRow 61 = .ok (.aload_n 0, 1) := by decide +kernel
theorem dX13_nextRow_62 : decode cX13_nextRow 62 = .ok (.dup, 1) := by decide +kernel
theorem dX13_nextRow_63 : decode cX13_nextRow 63 = .ok (.getfield 356, 3) := by decide +kernel
theorem dX13_nextRow_66 : decode cX13_nextRow 66 = .ok (.iconst 1, 1) := by decide +kernel
theorem dX13_nextRow_67 : decode cX13_nextRow 67 = .ok (.isub, 1) := by decide +kernel
theorem dX13_nextRow_68 : decode cX13_nextRow 68 = .ok (.putfield 356, 3) := by decide +kernel
theorem dX13_nextRow_71 : decode cX13_nextRow 71 = .ok (.goto (-50), 3) := by decide +kernel
theorem dX13_nextRow_74 : decode cX13_nextRow 74 = .ok (.aload_n 0, 1) := by decide +kernel
theorem dX13_nextRow_75 : decode cX13_nextRow 75 = .ok (.iload_n 1, 1) := by decide +kernel
theorem dX13_nextRow_76 : decode cX13_nextRow 76 = .ok (.invokevirtual 359, 3) := by decide +kernel
theorem dX13_nextRow_79 : decode cX13_nextRow 79 = .ok (.aload_n 0, 1) := by decide +kernel
theorem dX13_nextRow_80 : decode cX13_nextRow 80 = .ok (.getfield 356, 3) := by decide +kernel
theorem dX13_nextRow_83 : decode cX13_nextRow 83 = .ok (.aload_n 0, 1) := by decide +kernel
theorem dX13_nextRow_84 : decode cX13_nextRow 84 = .ok (.getfield 353, 3) := by decide +kernel
theorem dX13_nextRow_87 : decode cX13_nextRow 87 = .ok (.if_icmp .ne 5, 3) := by decide +kernel
theorem dX13_nextRow_90 : decode cX13_nextRow 90 = .ok (.iconst 1, 1) := by decide +kernel
theorem dX13_nextRow_91 : decode cX13_nextRow 91 = .ok (.ireturn, 1) := by decide +kernel
theorem dX13_nextRow_92 : decode cX13_nextRow 92 = .ok (.aload_n 0, 1) := by decide +kernel
theorem dX13_nextRow_93 : decode cX13_nextRow 93 = .ok (.getfield 87, 3) := by decide +kernel
theorem dX13_nextRow_96 : decode cX13_nextRow 96 = .ok (.aload_n 0, 1) := by decide +kernel
theorem dX13_nextRow_97 : decode cX13_nextRow 97 = .ok (.getfield 356, 3) := by decide +kernel
theorem dX13_nextRow_100 : decode cX13_nextRow 100 = .ok (.iconst 0, 1) := by decide +kernel
theorem dX13_nextRow_101 : decode cX13_nextRow 101 = .ok (.iastore, 1) := by decide +kernel
theorem dX13_nextRow_102 : decode cX13_nextRow 102 = .ok (.goto (-81), 3) := by decide +kernel
theorem dX13_nextRow_105 : decode cX13_nextRow 105 = .ok (.iconst 0, 1) := by decide +kernel
theorem dX13_nextRow_106 : decode cX13_nextRow 106 = .ok (.ireturn, 1) := by decide +kernel
theorem dX13_meansNow_0 : decode cX13_meansNow 0 = .ok (.aload_n 0, 1) := by decide +kernel
theorem dX13_meansNow_1 : decode cX13_meansNow 1 = .ok (.aload_n 0, 1) := by decide +kernel
theorem dX13_meansNow_2 : decode cX13_meansNow 2 = .ok (.getfield 81, 3) := by decide +kernel
theorem dX13_meansNow_5 : decode cX13_meansNow 5 = .ok (.bipush 6, 2) := by decide +kernel
theorem dX13_meansNow_7 : decode cX13_meansNow 7 = .ok (.aload_n 0, 1) := by decide +kernel
theorem dX13_meansNow_8 : decode cX13_meansNow 8 = .ok (.getfield 356, 3) := by decide +kernel
theorem dX13_meansNow_11 : decode cX13_meansNow 11 = .ok (.imul, 1) := by decide +kernel
theorem dX13_meansNow_12 : decode cX13_meansNow 12 = .ok (.iload_n 1, 1) := by decide +kernel
theorem dX13_meansNow_13 : decode cX13_meansNow 13 = .ok (.iadd, 1) := by decide +kernel
theorem dX13_meansNow_14 : decode cX13_meansNow 14 = .ok (.laload, 1) := by decide +kernel
theorem dX13_meansNow_15 : decode cX13_meansNow 15 = .ok (.invokevirtual 324, 3) := by decide +kernel
theorem dX13_meansNow_18 : decode cX13_meansNow 18 = .ok (.ireturn, 1) := by decide +kernel
theorem dX13_meetsGoals_0 : decode cX13_meetsGoals 0 = .ok (.iconst 0, 1) := by decide +kernel
theorem dX13_meetsGoals_1 : decode cX13_meetsGoals 1 = .ok (.istore_n 1, 1) := by decide +kernel
theorem dX13_meetsGoals_2 : decode cX13_meetsGoals 2 = .ok (.iload_n 1, 1) := by decide +kernel
theorem dX13_meetsGoals_3 : decode cX13_meetsGoals 3 = .ok (.aload_n 0, 1) := by decide +kernel
theorem dX13_meetsGoals_4 : decode cX13_meetsGoals 4 = .ok (.getfield 294, 3) := by decide +kernel
theorem dX13_meetsGoals_7 : decode cX13_meetsGoals 7 = .ok (.if_icmp .gt 58, 3) := by decide +kernel
theorem dX13_meetsGoals_10 : decode cX13_meetsGoals 10 = .ok (.aload_n 0, 1) := by decide +kernel
theorem dX13_meetsGoals_11 : decode cX13_meetsGoals 11 = .ok (.iload_n 1, 1) := by decide +kernel
theorem dX13_meetsGoals_12 : decode cX13_meetsGoals 12 = .ok (.invokevirtual 362, 3) := by decide +kernel
theorem dX13_meetsGoals_15 : decode cX13_meetsGoals 15 = .ok (.istore_n 2, 1) := by decide +kernel
theorem dX13_meetsGoals_16 : decode cX13_meetsGoals 16 = .ok (.aload_n 0, 1) := by decide +kernel
theorem dX13_meetsGoals_17 : decode cX13_meetsGoals 17 = .ok (.getfield 84, 3) := by decide +kernel
theorem dX13_meetsGoals_20 : decode cX13_meetsGoals 20 = .ok (.iload_n 1, 1) := by decide +kernel
theorem dX13_meetsGoals_21 : decode cX13_meetsGoals 21 = .ok (.iaload, 1) := by decide +kernel
theorem dX13_meetsGoals_22 : decode cX13_meetsGoals 22 = .ok (.bipush 8, 2) := by decide +kernel
theorem dX13_meetsGoals_24 : decode cX13_meetsGoals 24 = .ok (.if_icmp .ge 18, 3) := by decide +kernel
theorem dX13_meetsGoals_27 : decode cX13_meetsGoals 27 = .ok (.iload_n 2, 1) := by decide +kernel
theorem dX13_meetsGoals_28 : decode cX13_meetsGoals 28 = .ok (.iconst 1, 1) := by decide +kernel
theorem dX13_meetsGoals_29 : decode cX13_meetsGoals 29 = .ok (.aload_n 0, 1) := by decide +kernel
theorem dX13_meetsGoals_30 : decode cX13_meetsGoals 30 = .ok (.getfield 84, 3) := by decide +kernel
theorem dX13_meetsGoals_33 : decode cX13_meetsGoals 33 = .ok (.iload_n 1, 1) := by decide +kernel
theorem dX13_meetsGoals_34 : decode cX13_meetsGoals 34 = .ok (.iaload, 1) := by decide +kernel
theorem dX13_meetsGoals_35 : decode cX13_meetsGoals 35 = .ok (.ishl, 1) := by decide +kernel
theorem dX13_meetsGoals_36 : decode cX13_meetsGoals 36 = .ok (.if_icmp .eq 23, 3) := by decide +kernel
theorem dX13_meetsGoals_39 : decode cX13_meetsGoals 39 = .ok (.goto 18, 3) := by decide +kernel
theorem dX13_meetsGoals_42 : decode cX13_meetsGoals 42 = .ok (.aload_n 0, 1) := by decide +kernel
theorem dX13_meetsGoals_43 : decode cX13_meetsGoals 43 = .ok (.getfield 84, 3) := by decide +kernel
theorem dX13_meetsGoals_46 : decode cX13_meetsGoals 46 = .ok (.iload_n 1, 1) := by decide +kernel
theorem dX13_meetsGoals_47 : decode cX13_meetsGoals 47 = .ok (.iaload, 1) := by decide +kernel
theorem dX13_meetsGoals_48 : decode cX13_meetsGoals 48 = .ok (.bipush 8, 2) := by decide +kernel
theorem dX13_meetsGoals_50 : decode cX13_meetsGoals 50 = .ok (.if_icmp .ne 9, 3) := by decide +kernel
theorem dX13_meetsGoals_53 : decode cX13_meetsGoals 53 = .ok (.iload_n 2, 1) := by decide +kernel
theorem dX13_meetsGoals_54 : decode cX13_meetsGoals 54 = .ok (.ifCond .eq 5, 3) := by decide +kernel
theorem dX13_meetsGoals_57 : decode cX13_meetsGoals 57 = .ok (.iconst 0, 1) := by decide +kernel
theorem dX13_meetsGoals_58 : decode cX13_meetsGoals 58 = .ok (.ireturn, 1) := by decide +kernel
theorem dX13_meetsGoals_59 : decode cX13_meetsGoals 59 = .ok (.iinc 1 1, 3) := by decide +kernel
theorem dX13_meetsGoals_62 : decode cX13_meetsGoals 62 = .ok (.goto (-60), 3) := by decide +kernel
theorem dX13_meetsGoals_65 : decode cX13_meetsGoals 65 = .ok (.iconst 1, 1) := by decide +kernel
theorem dX13_meetsGoals_66 : decode cX13_meetsGoals 66 = .ok (.ireturn, 1) := by decide +kernel
theorem dX13_hasBeats_0 : decode cX13_hasBeats 0 = .ok (.iconst 1, 1) := by decide +kernel
theorem dX13_hasBeats_1 : decode cX13_hasBeats 1 = .ok (.istore_n 2, 1) := by decide +kernel
theorem dX13_hasBeats_2 : decode cX13_hasBeats 2 = .ok (.iload_n 2, 1) := by decide +kernel
theorem dX13_hasBeats_3 : decode cX13_hasBeats 3 = .ok (.aload_n 0, 1) := by decide +kernel
theorem dX13_hasBeats_4 : decode cX13_hasBeats 4 = .ok (.getfield 294, 3) := by decide +kernel
theorem dX13_hasBeats_7 : decode cX13_hasBeats 7 = .ok (.if_icmp .gt 29, 3) := by decide +kernel
theorem dX13_hasBeats_10 : decode cX13_hasBeats 10 = .ok (.aload_n 0, 1) := by decide +kernel
theorem dX13_hasBeats_11 : decode cX13_hasBeats 11 = .ok (.getfield 93, 3) := by decide +kernel
theorem dX13_hasBeats_14 : decode cX13_hasBeats 14 = .ok (.bipush 6, 2) := by decide +kernel
theorem dX13_hasBeats_16 : decode cX13_hasBeats 16 = .ok (.aload_n 0, 1) := by decide +kernel
theorem dX13_hasBeats_17 : decode cX13_hasBeats 17 = .ok (.getfield 356, 3) := by decide +kernel
theorem dX13_hasBeats_20 : decode cX13_hasBeats 20 = .ok (.imul, 1) := by decide +kernel
theorem dX13_hasBeats_21 : decode cX13_hasBeats 21 = .ok (.iload_n 2, 1) := by decide +kernel
theorem dX13_hasBeats_22 : decode cX13_hasBeats 22 = .ok (.iadd, 1) := by decide +kernel
theorem dX13_hasBeats_23 : decode cX13_hasBeats 23 = .ok (.iaload, 1) := by decide +kernel
theorem dX13_hasBeats_24 : decode cX13_hasBeats 24 = .ok (.iload_n 1, 1) := by decide +kernel
theorem dX13_hasBeats_25 : decode cX13_hasBeats 25 = .ok (.if_icmp .eq 5, 3) := by decide +kernel
theorem dX13_hasBeats_28 : decode cX13_hasBeats 28 = .ok (.iconst 0, 1) := by decide +kernel
theorem dX13_hasBeats_29 : decode cX13_hasBeats 29 = .ok (.ireturn, 1) := by decide +kernel
theorem dX13_hasBeats_30 : decode cX13_hasBeats 30 = .ok (.iinc 2 1, 3) := by decide +kernel
theorem dX13_hasBeats_33 : decode cX13_hasBeats 33 = .ok (.goto (-31), 3) := by decide +kernel
theorem dX13_hasBeats_36 : decode cX13_hasBeats 36 = .ok (.iconst 1, 1) := by decide +kernel
theorem dX13_hasBeats_37 : decode cX13_hasBeats 37 = .ok (.ireturn, 1) := by decide +kernel
theorem dX13_shortest_0 : decode cX13_shortest 0 = .ok (.iconst 1, 1) := by decide +kernel
theorem dX13_shortest_1 : decode cX13_shortest 1 = .ok (.istore_n 3, 1) := by decide +kernel
theorem dX13_shortest_2 : decode cX13_shortest 2 = .ok (.iload_n 3, 1) := by decide +kernel
theorem dX13_shortest_3 : decode cX13_shortest 3 = .ok (.iload_n 1, 1) := by decide +kernel
theorem dX13_shortest_4 : decode cX13_shortest 4 = .ok (.if_icmp .gt 42, 3) := by decide +kernel
theorem dX13_shortest_7 : decode cX13_shortest 7 = .ok (.aload_n 0, 1) := by decide +kernel
theorem dX13_shortest_8 : decode cX13_shortest 8 = .ok (.iload_n 3, 1) := by decide +kernel
theorem dX13_shortest_9 : decode cX13_shortest 9 = .ok (.invokevirtual 365, 3) := by decide +kernel
theorem dX13_shortest_12 : decode cX13_shortest 12 = .ok (.aload_n 0, 1) := by decide +kernel
theorem dX13_shortest_13 : decode cX13_shortest 13 = .ok (.invokevirtual 368, 3) := by decide +kernel
theorem dX13_shortest_16 : decode cX13_shortest 16 = .ok (.ifCond .eq 24, 3) := by decide +kernel
theorem dX13_shortest_19 : decode cX13_shortest 19 = .ok (.iload_n 2, 1) := by decide +kernel
theorem dX13_shortest_20 : decode cX13_shortest 20 = .ok (.ifCond .lt 11, 3) := by decide +kernel
theorem dX13_shortest_23 : decode cX13_shortest 23 = .ok (.aload_n 0, 1) := by decide +kernel
theorem dX13_shortest_24 : decode cX13_shortest 24 = .ok (.iload_n 2, 1) := by decide +kernel
theorem dX13_shortest_25 : decode cX13_shortest 25 = .ok (.invokevirtual 371, 3) := by decide +kernel
theorem dX13_shortest_28 : decode cX13_shortest 28 = .ok (.ifCond .eq (-16), 3) := by decide +kernel
theorem dX13_shortest_31 : decode cX13_shortest 31 = .ok (.aload_n 0, 1) := by decide +kernel
theorem dX13_shortest_32 : decode cX13_shortest 32 = .ok (.invokevirtual 374, 3) := by decide +kernel
theorem dX13_shortest_35 : decode cX13_shortest 35 = .ok (.ifCond .eq (-23), 3) := by decide +kernel
theorem dX13_shortest_38 : decode cX13_shortest 38 = .ok (.iload_n 3, 1) := by decide +kernel
theorem dX13_shortest_39 : decode cX13_shortest 39 = .ok (.ireturn, 1) := by decide +kernel
theorem dX13_shortest_40 : decode cX13_shortest 40 = .ok (.iinc 3 1, 3) := by decide +kernel
theorem dX13_shortest_43 : decode cX13_shortest 43 = .ok (.goto (-41), 3) := by decide +kernel
theorem dX13_shortest_46 : decode cX13_shortest 46 = .ok (.iconst (-1), 1) := by decide +kernel
theorem dX13_shortest_47 : decode cX13_shortest 47 = .ok (.ireturn, 1) := by decide +kernel
theorem dX13_takesGoals_0 : decode cX13_takesGoals 0 = .ok (.aload_n 0, 1) := by decide +kernel
theorem dX13_takesGoals_1 : decode cX13_takesGoals 1 = .ok (.sipush 940, 3) := by decide +kernel
theorem dX13_takesGoals_4 : decode cX13_takesGoals 4 = .ok (.invokevirtual 260, 3) := by decide +kernel
theorem dX13_takesGoals_7 : decode cX13_takesGoals 7 = .ok (.aload_n 0, 1) := by decide +kernel
theorem dX13_takesGoals_8 : decode cX13_takesGoals 8 = .ok (.getfield 33, 3) := by decide +kernel
theorem dX13_takesGoals_11 : decode cX13_takesGoals 11 = .ok (.iconst 2, 1) := by decide +kernel
theorem dX13_takesGoals_12 : decode cX13_takesGoals 12 = .ok (.iaload, 1) := by decide +kernel
theorem dX13_takesGoals_13 : decode cX13_takesGoals 13 = .ok (.ifCond .eq 18, 3) := by decide +kernel
theorem dX13_takesGoals_16 : decode cX13_takesGoals 16 = .ok (.aload_n 0, 1) := by decide +kernel
theorem dX13_takesGoals_17 : decode cX13_takesGoals 17 = .ok (.getfield 18, 3) := by decide +kernel
theorem dX13_takesGoals_20 : decode cX13_takesGoals 20 = .ok (.aload_n 0, 1) := by decide +kernel
theorem dX13_takesGoals_21 : decode cX13_takesGoals 21 = .ok (.getfield 33, 3) := by decide +kernel
theorem dX13_takesGoals_24 : decode cX13_takesGoals 24 = .ok (.iconst 3, 1) := by decide +kernel
theorem dX13_takesGoals_25 : decode cX13_takesGoals 25 = .ok (.iaload, 1) := by decide +kernel
theorem dX13_takesGoals_26 : decode cX13_takesGoals 26 = .ok (.iconst 1, 1) := by decide +kernel
theorem dX13_takesGoals_27 : decode cX13_takesGoals 27 = .ok (.iadd, 1) := by decide +kernel
theorem dX13_takesGoals_28 : decode cX13_takesGoals 28 = .ok (.if_icmp .eq 5, 3) := by decide +kernel
theorem dX13_takesGoals_31 : decode cX13_takesGoals 31 = .ok (.iconst 0, 1) := by decide +kernel
theorem dX13_takesGoals_32 : decode cX13_takesGoals 32 = .ok (.ireturn, 1) := by decide +kernel
theorem dX13_takesGoals_33 : decode cX13_takesGoals 33 = .ok (.iconst 0, 1) := by decide +kernel
theorem dX13_takesGoals_34 : decode cX13_takesGoals 34 = .ok (.istore_n 1, 1) := by decide +kernel
theorem dX13_takesGoals_35 : decode cX13_takesGoals 35 = .ok (.iload_n 1, 1) := by decide +kernel
theorem dX13_takesGoals_36 : decode cX13_takesGoals 36 = .ok (.aload_n 0, 1) := by decide +kernel
theorem dX13_takesGoals_37 : decode cX13_takesGoals 37 = .ok (.getfield 18, 3) := by decide +kernel
theorem dX13_takesGoals_40 : decode cX13_takesGoals 40 = .ok (.if_icmp .ge 33, 3) := by decide +kernel
theorem dX13_takesGoals_43 : decode cX13_takesGoals 43 = .ok (.aload_n 0, 1) := by decide +kernel
theorem dX13_takesGoals_44 : decode cX13_takesGoals 44 = .ok (.getfield 84, 3) := by decide +kernel
theorem dX13_takesGoals_47 : decode cX13_takesGoals 47 = .ok (.iload_n 1, 1) := by decide +kernel
theorem dX13_takesGoals_48 : decode cX13_takesGoals 48 = .ok (.aload_n 0, 1) := by decide +kernel
theorem dX13_takesGoals_49 : decode cX13_takesGoals 49 = .ok (.iload_n 1, 1) := by decide +kernel
theorem dX13_takesGoals_50 : decode cX13_takesGoals 50 = .ok (.invokevirtual 283, 3) := by decide +kernel
theorem dX13_takesGoals_53 : decode cX13_takesGoals 53 = .ok (.iastore, 1) := by decide +kernel
theorem dX13_takesGoals_54 : decode cX13_takesGoals 54 = .ok (.aload_n 0, 1) := by decide +kernel
theorem dX13_takesGoals_55 : decode cX13_takesGoals 55 = .ok (.getfield 84, 3) := by decide +kernel
theorem dX13_takesGoals_58 : decode cX13_takesGoals 58 = .ok (.iload_n 1, 1) := by decide +kernel
theorem dX13_takesGoals_59 : decode cX13_takesGoals 59 = .ok (.iaload, 1) := by decide +kernel
theorem dX13_takesGoals_60 : decode cX13_takesGoals 60 = .ok (.bipush 9, 2) := by decide +kernel
theorem dX13_takesGoals_62 : decode cX13_takesGoals 62 = .ok (.if_icmp .le 5, 3) := by decide +kernel
theorem dX13_takesGoals_65 : decode cX13_takesGoals 65 = .ok (.iconst 0, 1) := by decide +kernel
theorem dX13_takesGoals_66 : decode cX13_takesGoals 66 = .ok (.ireturn, 1) := by decide +kernel
theorem dX13_takesGoals_67 : decode cX13_takesGoals 67 = .ok (.iinc 1 1, 3) := by decide +kernel
theorem dX13_takesGoals_70 : decode cX13_takesGoals 70 = .ok (.goto (-35), 3) := by decide +kernel
theorem dX13_takesGoals_73 : decode cX13_takesGoals 73 = .ok (.aload_n 0, 1) := by decide +kernel
theorem dX13_takesGoals_74 : decode cX13_takesGoals 74 = .ok (.invokevirtual 328, 3) := by decide +kernel
theorem dX13_takesGoals_77 : decode cX13_takesGoals 77 = .ok (.iconst 1, 1) := by decide +kernel
theorem dX13_takesGoals_78 : decode cX13_takesGoals 78 = .ok (.ireturn, 1) := by decide +kernel
theorem dX13_keepRow_0 : decode cX13_keepRow 0 = .ok (.iload_n 1, 1) := by decide +kernel
theorem dX13_keepRow_1 : decode cX13_keepRow 1 = .ok (.ifCond .ge 5, 3) := by decide +kernel
theorem dX13_keepRow_4 : decode cX13_keepRow 4 = .ok (.iconst (-1), 1) := by decide +kernel
theorem dX13_keepRow_5 : decode cX13_keepRow 5 = .ok (.ireturn, 1) := by decide +kernel
theorem dX13_keepRow_6 : decode cX13_keepRow 6 = .ok (.aload_n 0, 1) := by decide +kernel
theorem dX13_keepRow_7 : decode cX13_keepRow 7 = .ok (.iload_n 1, 1) := by decide +kernel
theorem dX13_keepRow_8 : decode cX13_keepRow 8 = .ok (.putfield 377, 3) := by decide +kernel
theorem dX13_keepRow_11 : decode cX13_keepRow 11 = .ok (.iconst 0, 1) := by decide +kernel
theorem dX13_keepRow_12 : decode cX13_keepRow 12 = .ok (.istore_n 2, 1) := by decide +kernel
theorem dX13_keepRow_13 : decode cX13_keepRow 13 = .ok (.iload_n 2, 1) := by decide +kernel
theorem dX13_keepRow_14 : decode cX13_keepRow 14 = .ok (.iload_n 1, 1) := by decide +kernel
theorem dX13_keepRow_15 : decode cX13_keepRow 15 = .ok (.if_icmp .ge 21, 3) := by decide +kernel
theorem dX13_keepRow_18 : decode cX13_keepRow 18 = .ok (.aload_n 0, 1) := by decide +kernel
theorem dX13_keepRow_19 : decode cX13_keepRow 19 = .ok (.getfield 96, 3) := by decide +kernel
theorem dX13_keepRow_22 : decode cX13_keepRow 22 = .ok (.iload_n 2, 1) := by decide +kernel
theorem dX13_keepRow_23 : decode cX13_keepRow 23 = .ok (.aload_n 0, 1) := by decide +kernel
theorem dX13_keepRow_24 : decode cX13_keepRow 24 = .ok (.getfield 90, 3) := by decide +kernel
theorem dX13_keepRow_27 : decode cX13_keepRow 27 = .ok (.iload_n 2, 1) := by decide +kernel
theorem dX13_keepRow_28 : decode cX13_keepRow 28 = .ok (.iaload, 1) := by decide +kernel
theorem dX13_keepRow_29 : decode cX13_keepRow 29 = .ok (.iastore, 1) := by decide +kernel
theorem dX13_keepRow_30 : decode cX13_keepRow 30 = .ok (.iinc 2 1, 3) := by decide +kernel
theorem dX13_keepRow_33 : decode cX13_keepRow 33 = .ok (.goto (-20), 3) := by decide +kernel
theorem dX13_keepRow_36 : decode cX13_keepRow 36 = .ok (.iload_n 1, 1) := by decide +kernel
theorem dX13_keepRow_37 : decode cX13_keepRow 37 = .ok (.ireturn, 1) := by decide +kernel
theorem dX13_find__0 : decode cX13_find_ 0 = .ok (.aload_n 0, 1) := by decide +kernel
theorem dX13_find__1 : decode cX13_find_ 1 = .ok (.iconst 0, 1) := by decide +kernel
theorem dX13_find__2 : decode cX13_find_ 2 = .ok (.putfield 1, 3) := by decide +kernel
theorem dX13_find__5 : decode cX13_find_ 5 = .ok (.aload_n 0, 1) := by decide +kernel
theorem dX13_find__6 : decode cX13_find_ 6 = .ok (.invokevirtual 380, 3) := by decide +kernel
theorem dX13_find__9 : decode cX13_find_ 9 = .ok (.ifCond .eq 13, 3) := by decide +kernel
theorem dX13_find__12 : decode cX13_find_ 12 = .ok (.iload_n 1, 1) := by decide +kernel
theorem dX13_find__13 : decode cX13_find_ 13 = .ok (.iconst 1, 1) := by decide +kernel
theorem dX13_find__14 : decode cX13_find_ 14 = .ok (.bipush 6, 2) := by decide +kernel
theorem dX13_find__16 : decode cX13_find_ 16 = .ok (.invokestatic 204, 3) := by decide +kernel
theorem dX13_find__19 : decode cX13_find_ 19 = .ok (.ifCond .ne 6, 3) := by decide +kernel
theorem dX13_find__22 : decode cX13_find_ 22 = .ok (.bipush (-2), 2) := by decide +kernel
theorem dX13_find__24 : decode cX13_find_ 24 = .ok (.ireturn, 1) := by decide +kernel
theorem dX13_find__25 : decode cX13_find_ 25 = .ok (.aload_n 0, 1) := by decide +kernel
theorem dX13_find__26 : decode cX13_find_ 26 = .ok (.aload_n 0, 1) := by decide +kernel
theorem dX13_find__27 : decode cX13_find_ 27 = .ok (.iload_n 1, 1) := by decide +kernel
theorem dX13_find__28 : decode cX13_find_ 28 = .ok (.iconst (-1), 1) := by decide +kernel
theorem dX13_find__29 : decode cX13_find_ 29 = .ok (.invokevirtual 383, 3) := by decide +kernel
theorem dX13_find__32 : decode cX13_find_ 32 = .ok (.invokevirtual 386, 3) := by decide +kernel
theorem dX13_find__35 : decode cX13_find_ 35 = .ok (.ireturn, 1) := by decide +kernel
theorem dX13_verse_0 : decode cX13_verse 0 = .ok (.aload_n 0, 1) := by decide +kernel
theorem dX13_verse_1 : decode cX13_verse 1 = .ok (.iconst 0, 1) := by decide +kernel
theorem dX13_verse_2 : decode cX13_verse 2 = .ok (.putfield 1, 3) := by decide +kernel
theorem dX13_verse_5 : decode cX13_verse 5 = .ok (.aload_n 0, 1) := by decide +kernel
theorem dX13_verse_6 : decode cX13_verse 6 = .ok (.invokevirtual 380, 3) := by decide +kernel
theorem dX13_verse_9 : decode cX13_verse 9 = .ok (.ifCond .eq 23, 3) := by decide +kernel
theorem dX13_verse_12 : decode cX13_verse 12 = .ok (.iload_n 2, 1) := by decide +kernel
theorem dX13_verse_13 : decode cX13_verse 13 = .ok (.iconst 1, 1) := by decide +kernel
theorem dX13_verse_14 : decode cX13_verse 14 = .ok (.bipush 6, 2) := by decide +kernel
theorem dX13_verse_16 : decode cX13_verse 16 = .ok (.invokestatic 204, 3) := by decide +kernel
theorem dX13_verse_19 : decode cX13_verse 19 = .ok (.ifCond .eq 13, 3) := by decide +kernel
theorem dX13_verse_22 : decode cX13_verse 22 = .ok (.iload_n 1, 1) := by decide +kernel
theorem dX13_verse_23 : decode cX13_verse 23 = .ok (.iconst 0, 1) := by decide +kernel
theorem dX13_verse_24 : decode cX13_verse 24 = .ok (.bipush 54, 2) := by decide +kernel
theorem dX13_verse_26 : decode cX13_verse 26 = .ok (.invokestatic 204, 3) := by decide +kernel
theorem dX13_verse_29 : decode cX13_verse 29 = .ok (.ifCond .ne 6, 3) := by decide +kernel
theorem dX13_verse_32 : decode cX13_verse 32 = .ok (.bipush (-2), 2) := by decide +kernel
theorem dX13_verse_34 : decode cX13_verse 34 = .ok (.ireturn, 1) := by decide +kernel
theorem dX13_verse_35 : decode cX13_verse 35 = .ok (.aload_n 0, 1) := by decide +kernel
theorem dX13_verse_36 : decode cX13_verse 36 = .ok (.aload_n 0, 1) := by decide +kernel
theorem dX13_verse_37 : decode cX13_verse 37 = .ok (.iload_n 2, 1) := by decide +kernel
theorem dX13_verse_38 : decode cX13_verse 38 = .ok (.iload_n 1, 1) := by decide +kernel
theorem dX13_verse_39 : decode cX13_verse 39 = .ok (.invokevirtual 383, 3) := by decide +kernel
theorem dX13_verse_42 : decode cX13_verse 42 = .ok (.invokevirtual 386, 3) := by decide +kernel
theorem dX13_verse_45 : decode cX13_verse 45 = .ok (.ireturn, 1) := by decide +kernel
theorem dX13_cheapest_0 : decode cX13_cheapest 0 = .ok (.aload_n 0, 1) := by decide +kernel
theorem dX13_cheapest_1 : decode cX13_cheapest 1 = .ok (.iconst 0, 1) := by decide +kernel
theorem dX13_cheapest_2 : decode cX13_cheapest 2 = .ok (.putfield 1, 3) := by decide +kernel
theorem dX13_cheapest_5 : decode cX13_cheapest 5 = .ok (.aload_n 0, 1) := by decide +kernel
theorem dX13_cheapest_6 : decode cX13_cheapest 6 = .ok (.invokevirtual 380, 3) := by decide +kernel
theorem dX13_cheapest_9 : decode cX13_cheapest 9 = .ok (.ifCond .eq 12, 3) := by decide +kernel
theorem dX13_cheapest_12 : decode cX13_cheapest 12 = .ok (.iload_n 1, 1) := by decide +kernel
theorem dX13_cheapest_13 : decode cX13_cheapest 13 = .ok (.iconst 1, 1) := by decide +kernel
theorem dX13_cheapest_14 : decode cX13_cheapest 14 = .ok (.iconst 5, 1) := by decide +kernel
theorem dX13_cheapest_15 : decode cX13_cheapest 15 = .ok (.invokestatic 204, 3) := by decide +kernel
theorem dX13_cheapest_18 : decode cX13_cheapest 18 = .ok (.ifCond .ne 6, 3) := by decide +kernel
theorem dX13_cheapest_21 : decode cX13_cheapest 21 = .ok (.bipush (-2), 2) := by decide +kernel
theorem dX13_cheapest_23 : decode cX13_cheapest 23 = .ok (.ireturn, 1) := by decide +kernel
theorem dX13_cheapest_24 : decode cX13_cheapest 24 = .ok (.iconst (-1), 1) := by decide +kernel
theorem dX13_cheapest_25 : decode cX13_cheapest 25 = .ok (.istore_n 2, 1) := by decide +kernel
theorem dX13_cheapest_26 : decode cX13_cheapest 26 = .ok (.iconst 1, 1) := by decide +kernel
theorem dX13_cheapest_27 : decode cX13_cheapest 27 = .ok (.istore_n 3, 1) := by decide +kernel
theorem dX13_cheapest_28 : decode cX13_cheapest 28 = .ok (.iload_n 3, 1) := by decide +kernel
theorem dX13_cheapest_29 : decode cX13_cheapest 29 = .ok (.iload_n 1, 1) := by decide +kernel
theorem dX13_cheapest_30 : decode cX13_cheapest 30 = .ok (.if_icmp .gt 91, 3) := by decide +kernel
theorem dX13_cheapest_33 : decode cX13_cheapest 33 = .ok (.aload_n 0, 1) := by decide +kernel
theorem dX13_cheapest_34 : decode cX13_cheapest 34 = .ok (.iload_n 3, 1) := by decide +kernel
theorem dX13_cheapest_35 : decode cX13_cheapest 35 = .ok (.invokevirtual 365, 3) := by decide +kernel
theorem dX13_cheapest_38 : decode cX13_cheapest 38 = .ok (.aload_n 0, 1) := by decide +kernel
theorem dX13_cheapest_39 : decode cX13_cheapest 39 = .ok (.invokevirtual 368, 3) := by decide +kernel
theorem dX13_cheapest_42 : decode cX13_cheapest 42 = .ok (.ifCond .eq 73, 3) := by decide +kernel
theorem dX13_cheapest_45 : decode cX13_cheapest 45 = .ok (.iconst 0, 1) := by decide +kernel
theorem dX13_cheapest_46 : decode cX13_cheapest 46 = .ok (.istore 4, 2) := by decide +kernel
theorem dX13_cheapest_48 : decode cX13_cheapest 48 = .ok (.iconst 0, 1) := by decide +kernel
theorem dX13_cheapest_49 : decode cX13_cheapest 49 = .ok (.istore 5, 2) := by decide +kernel
theorem dX13_cheapest_51 : decode cX13_cheapest 51 = .ok (.iload 5, 2) := by decide +kernel
theorem dX13_cheapest_53 : decode cX13_cheapest 53 = .ok (.iload_n 3, 1) := by decide +kernel
theorem dX13_cheapest_54 : decode cX13_cheapest 54 = .ok (.if_icmp .ge 29, 3) := by decide +kernel
theorem dX13_cheapest_57 : decode cX13_cheapest 57 = .ok (.iload 4, 2) := by decide +kernel
theorem dX13_cheapest_59 : decode cX13_cheapest 59 = .ok (.aload_n 0, 1) := by decide +kernel
theorem dX13_cheapest_60 : decode cX13_cheapest 60 = .ok (.getfield 33, 3) := by decide +kernel
theorem dX13_cheapest_63 : decode cX13_cheapest 63 = .ok (.bipush 56, 2) := by decide +kernel
theorem dX13_cheapest_65 : decode cX13_cheapest 65 = .ok (.aload_n 0, 1) := by decide +kernel
theorem dX13_cheapest_66 : decode cX13_cheapest 66 = .ok (.getfield 90, 3) := by decide +kernel
theorem dX13_cheapest_69 : decode cX13_cheapest 69 = .ok (.iload 5, 2) := by decide +kernel
theorem dX13_cheapest_71 : decode cX13_cheapest 71 = .ok (.iaload, 1) := by decide +kernel
theorem dX13_cheapest_72 : decode cX13_cheapest 72 = .ok (.iadd, 1) := by decide +kernel
theorem dX13_cheapest_73 : decode cX13_cheapest 73 = .ok (.iaload, 1) := by decide +kernel
theorem dX13_cheapest_74 : decode cX13_cheapest 74 = .ok (.iadd, 1) := by decide +kernel
theorem dX13_cheapest_75 : decode cX13_cheapest 75 = .ok (.istore 4, 2) := by decide +kernel
theorem dX13_cheapest_77 : decode cX13_cheapest 77 = .ok (.iinc 5 1, 3) := by decide +kernel
theorem dX13_cheapest_80 : decode cX13_cheapest 80 = .ok (.goto (-29), 3) := by decide +kernel
theorem dX13_cheapest_83 : decode cX13_cheapest 83 = .ok (.iload_n 2, 1) := by decide +kernel
theorem dX13_cheapest_84 : decode cX13_cheapest 84 = .ok (.ifCond .lt 9, 3) := by decide +kernel
theorem dX13_cheapest_87 : decode cX13_cheapest 87 = .ok (.iload 4, 2) := by decide +kernel
theorem dX13_cheapest_89 : decode cX13_cheapest 89 = .ok (.iload_n 2, 1) := by decide +kernel
theorem dX13_cheapest_90 : decode cX13_cheapest 90 = .ok (.if_icmp .ge (-52), 3) := by decide +kernel
theorem dX13_cheapest_93 : decode cX13_cheapest 93 = .ok (.aload_n 0, 1) := by decide +kernel
theorem dX13_cheapest_94 : decode cX13_cheapest 94 = .ok (.invokevirtual 374, 3) := by decide +kernel
theorem dX13_cheapest_97 : decode cX13_cheapest 97 = .ok (.ifCond .ne 6, 3) := by decide +kernel
theorem dX13_cheapest_100 : decode cX13_cheapest 100 = .ok (.goto (-62), 3) := by decide +kernel
theorem dX13_cheapest_103 : decode cX13_cheapest 103 = .ok (.iload 4, 2) := by decide +kernel
theorem dX13_cheapest_105 : decode cX13_cheapest 105 = .ok (.istore_n 2, 1) := by decide +kernel
theorem dX13_cheapest_106 : decode cX13_cheapest 106 = .ok (.aload_n 0, 1) := by decide +kernel
theorem dX13_cheapest_107 : decode cX13_cheapest 107 = .ok (.iload_n 3, 1) := by decide +kernel
theorem dX13_cheapest_108 : decode cX13_cheapest 108 = .ok (.invokevirtual 386, 3) := by decide +kernel
theorem dX13_cheapest_111 : decode cX13_cheapest 111 = .ok (.pop, 1) := by decide +kernel
theorem dX13_cheapest_112 : decode cX13_cheapest 112 = .ok (.goto (-74), 3) := by decide +kernel
theorem dX13_cheapest_115 : decode cX13_cheapest 115 = .ok (.iinc 3 1, 3) := by decide +kernel
theorem dX13_cheapest_118 : decode cX13_cheapest 118 = .ok (.goto (-90), 3) := by decide +kernel
theorem dX13_cheapest_121 : decode cX13_cheapest 121 = .ok (.iload_n 2, 1) := by decide +kernel
theorem dX13_cheapest_122 : decode cX13_cheapest 122 = .ok (.ireturn, 1) := by decide +kernel
theorem dX13_longer_0 : decode cX13_longer 0 = .ok (.aload_n 0, 1) := by decide +kernel
theorem dX13_longer_1 : decode cX13_longer 1 = .ok (.iconst 0, 1) := by decide +kernel
theorem dX13_longer_2 : decode cX13_longer 2 = .ok (.putfield 1, 3) := by decide +kernel
theorem dX13_longer_5 : decode cX13_longer 5 = .ok (.iload_n 1, 1) := by decide +kernel
theorem dX13_longer_6 : decode cX13_longer 6 = .ok (.iconst 0, 1) := by decide +kernel
theorem dX13_longer_7 : decode cX13_longer 7 = .ok (.bipush 7, 2) := by decide +kernel
theorem dX13_longer_9 : decode cX13_longer 9 = .ok (.invokestatic 204, 3) := by decide +kernel
theorem dX13_longer_12 : decode cX13_longer 12 = .ok (.ifCond .eq 22, 3) := by decide +kernel
theorem dX13_longer_15 : decode cX13_longer 15 = .ok (.iload_n 2, 1) := by decide +kernel
theorem dX13_longer_16 : decode cX13_longer 16 = .ok (.iconst 1, 1) := by decide +kernel
theorem dX13_longer_17 : decode cX13_longer 17 = .ok (.bipush 6, 2) := by decide +kernel
theorem dX13_longer_19 : decode cX13_longer 19 = .ok (.invokestatic 204, 3) := by decide +kernel
theorem dX13_longer_22 : decode cX13_longer 22 = .ok (.ifCond .eq 12, 3) := by decide +kernel
theorem dX13_longer_25 : decode cX13_longer 25 = .ok (.aload_n 0, 1) := by decide +kernel
theorem dX13_longer_26 : decode cX13_longer 26 = .ok (.getfield 33, 3) := by decide +kernel
theorem dX13_longer_29 : decode cX13_longer 29 = .ok (.iconst 2, 1) := by decide +kernel
theorem dX13_longer_30 : decode cX13_longer 30 = .ok (.iaload, 1) := by decide +kernel
theorem dX13_longer_31 : decode cX13_longer 31 = .ok (.ifCond .ne 6, 3) := by decide +kernel
theorem dX13_longer_34 : decode cX13_longer 34 = .ok (.bipush (-7), 2) := by decide +kernel
theorem dX13_longer_36 : decode cX13_longer 36 = .ok (.ireturn, 1) := by decide +kernel
theorem dX13_longer_37 : decode cX13_longer 37 = .ok (.aload_n 0, 1) := by decide +kernel
theorem dX13_longer_38 : decode cX13_longer 38 = .ok (.invokevirtual 328, 3) := by decide +kernel
theorem dX13_longer_41 : decode cX13_longer 41 = .ok (.iconst 0, 1) := by decide +kernel
theorem dX13_longer_42 : decode cX13_longer 42 = .ok (.istore_n 3, 1) := by decide +kernel
theorem dX13_longer_43 : decode cX13_longer 43 = .ok (.iload_n 3, 1) := by decide +kernel
theorem dX13_longer_44 : decode cX13_longer 44 = .ok (.aload_n 0, 1) := by decide +kernel
theorem dX13_longer_45 : decode cX13_longer 45 = .ok (.getfield 294, 3) := by decide +kernel
theorem dX13_longer_48 : decode cX13_longer 48 = .ok (.if_icmp .gt 25, 3) := by decide +kernel
theorem dX13_longer_51 : decode cX13_longer 51 = .ok (.aload_n 0, 1) := by decide +kernel
theorem dX13_longer_52 : decode cX13_longer 52 = .ok (.getfield 84, 3) := by decide +kernel
theorem dX13_longer_55 : decode cX13_longer 55 = .ok (.iload_n 3, 1) := by decide +kernel
theorem dX13_longer_56 : decode cX13_longer 56 = .ok (.iload_n 3, 1) := by decide +kernel
theorem dX13_longer_57 : decode cX13_longer 57 = .ok (.ifCond .ne 8, 3) := by decide +kernel
theorem dX13_longer_60 : decode cX13_longer 60 = .ok (.bipush 9, 2) := by decide +kernel
theorem dX13_longer_62 : decode cX13_longer 62 = .ok (.goto 4, 3) := by decide +kernel
theorem dX13_longer_65 : decode cX13_longer 65 = .ok (.iload_n 1, 1) := by decide +kernel
theorem dX13_longer_66 : decode cX13_longer 66 = .ok (.iastore, 1) := by decide +kernel
theorem dX13_longer_67 : decode cX13_longer 67 = .ok (.iinc 3 1, 3) := by decide +kernel
theorem dX13_longer_70 : decode cX13_longer 70 = .ok (.goto (-27), 3) := by decide +kernel
theorem dX13_longer_73 : decode cX13_longer 73 = .ok (.aload_n 0, 1) := by decide +kernel
theorem dX13_longer_74 : decode cX13_longer 74 = .ok (.iload_n 2, 1) := by decide +kernel
theorem dX13_longer_75 : decode cX13_longer 75 = .ok (.iconst (-1), 1) := by decide +kernel
theorem dX13_longer_76 : decode cX13_longer 76 = .ok (.invokevirtual 383, 3) := by decide +kernel
theorem dX13_longer_79 : decode cX13_longer 79 = .ok (.istore_n 3, 1) := by decide +kernel
theorem dX13_longer_80 : decode cX13_longer 80 = .ok (.iconst 0, 1) := by decide +kernel
theorem dX13_longer_81 : decode cX13_longer 81 = .ok (.istore 4, 2) := by decide +kernel
theorem dX13_longer_83 : decode cX13_longer 83 = .ok (.iload 4, 2) := by decide +kernel
theorem dX13_longer_85 : decode cX13_longer 85 = .ok (.aload_n 0, 1) := by decide +kernel
theorem dX13_longer_86 : decode cX13_longer 86 = .ok (.getfield 294, 3) := by decide +kernel
theorem dX13_longer_89 : decode cX13_longer 89 = .ok (.if_icmp .gt 27, 3) := by decide +kernel
theorem dX13_longer_92 : decode cX13_longer 92 = .ok (.aload_n 0, 1) := by decide +kernel
theorem dX13_longer_93 : decode cX13_longer 93 = .ok (.getfield 84, 3) := by decide +kernel
theorem dX13_longer_96 : decode cX13_longer 96 = .ok (.iload 4, 2) := by decide +kernel
theorem dX13_longer_98 : decode cX13_longer 98 = .ok (.iload 4, 2) := by decide +kernel
theorem dX13_longer_100 : decode cX13_longer 100 = .ok (.ifCond .ne 7, 3) := by decide +kernel
theorem dX13_longer_103 : decode cX13_longer 103 = .ok (.iload_n 1, 1) := by decide +kernel
theorem dX13_longer_104 : decode cX13_longer 104 = .ok (.goto 5, 3) := by decide +kernel
theorem dX13_longer_107 : decode cX13_longer 107 = .ok (.bipush 9, 2) := by decide +kernel
theorem dX13_longer_109 : decode cX13_longer 109 = .ok (.iastore, 1) := by decide +kernel
theorem dX13_longer_110 : decode cX13_longer 110 = .ok (.iinc 4 1, 3) := by decide +kernel
theorem dX13_longer_113 : decode cX13_longer 113 = .ok (.goto (-30), 3) := by decide +kernel
theorem dX13_longer_116 : decode cX13_longer 116 = .ok (.aload_n 0, 1) := by decide +kernel
theorem dX13_longer_117 : decode cX13_longer 117 = .ok (.iload_n 2, 1) := by decide +kernel
theorem dX13_longer_118 : decode cX13_longer 118 = .ok (.iconst (-1), 1) := by decide +kernel
theorem dX13_longer_119 : decode cX13_longer 119 = .ok (.invokevirtual 383, 3) := by decide +kernel
theorem dX13_longer_122 : decode cX13_longer 122 = .ok (.istore 4, 2) := by decide +kernel
theorem dX13_longer_124 : decode cX13_longer 124 = .ok (.iload_n 3, 1) := by decide +kernel
theorem dX13_longer_125 : decode cX13_longer 125 = .ok (.ifCond .lt 8, 3) := by decide +kernel
theorem dX13_longer_128 : decode cX13_longer 128 = .ok (.iload 4, 2) := by decide +kernel
theorem dX13_longer_130 : decode cX13_longer 130 = .ok (.ifCond .ge 8, 3) := by decide +kernel
theorem dX13_longer_133 : decode cX13_longer 133 = .ok (.bipush (-7), 2) := by decide +kernel
theorem dX13_longer_135 : decode cX13_longer 135 = .ok (.goto 7, 3) := by decide +kernel
theorem dX13_longer_138 : decode cX13_longer 138 = .ok (.iload_n 3, 1) := by decide +kernel
theorem dX13_longer_139 : decode cX13_longer 139 = .ok (.iload 4, 2) := by decide +kernel
theorem dX13_longer_141 : decode cX13_longer 141 = .ok (.isub, 1) := by decide +kernel
theorem dX13_longer_142 : decode cX13_longer 142 = .ok (.ireturn, 1) := by decide +kernel
theorem dX13_foundAt_0 : decode cX13_foundAt 0 = .ok (.aload_n 0, 1) := by decide +kernel
theorem dX13_foundAt_1 : decode cX13_foundAt 1 = .ok (.iconst 0, 1) := by decide +kernel
theorem dX13_foundAt_2 : decode cX13_foundAt 2 = .ok (.putfield 1, 3) := by decide +kernel
theorem dX13_foundAt_5 : decode cX13_foundAt 5 = .ok (.iload_n 1, 1) := by decide +kernel
theorem dX13_foundAt_6 : decode cX13_foundAt 6 = .ok (.iconst 0, 1) := by decide +kernel
theorem dX13_foundAt_7 : decode cX13_foundAt 7 = .ok (.aload_n 0, 1) := by decide +kernel
theorem dX13_foundAt_8 : decode cX13_foundAt 8 = .ok (.getfield 377, 3) := by decide +kernel
theorem dX13_foundAt_11 : decode cX13_foundAt 11 = .ok (.iconst 1, 1) := by decide +kernel
theorem dX13_foundAt_12 : decode cX13_foundAt 12 = .ok (.isub, 1) := by decide +kernel
theorem dX13_foundAt_13 : decode cX13_foundAt 13 = .ok (.invokestatic 204, 3) := by decide +kernel
theorem dX13_foundAt_16 : decode cX13_foundAt 16 = .ok (.ifCond .eq 12, 3) := by decide +kernel
theorem dX13_foundAt_19 : decode cX13_foundAt 19 = .ok (.aload_n 0, 1) := by decide +kernel
theorem dX13_foundAt_20 : decode cX13_foundAt 20 = .ok (.getfield 96, 3) := by decide +kernel
theorem dX13_foundAt_23 : decode cX13_foundAt 23 = .ok (.iload_n 1, 1) := by decide +kernel
theorem dX13_foundAt_24 : decode cX13_foundAt 24 = .ok (.iaload, 1) := by decide +kernel
theorem dX13_foundAt_25 : decode cX13_foundAt 25 = .ok (.goto 4, 3) := by decide +kernel
theorem dX13_foundAt_28 : decode cX13_foundAt 28 = .ok (.iconst (-1), 1) := by decide +kernel
theorem dX13_foundAt_29 : decode cX13_foundAt 29 = .ok (.ireturn, 1) := by decide +kernel
theorem dX13_other_0 : decode cX13_other 0 = .ok (.aload_n 0, 1) := by decide +kernel
theorem dX13_other_1 : decode cX13_other 1 = .ok (.iconst 0, 1) := by decide +kernel
theorem dX13_other_2 : decode cX13_other 2 = .ok (.putfield 1, 3) := by decide +kernel
theorem dX13_other_5 : decode cX13_other 5 = .ok (.iload_n 1, 1) := by decide +kernel
theorem dX13_other_6 : decode cX13_other 6 = .ok (.iconst 2, 1) := by decide +kernel
theorem dX13_other_7 : decode cX13_other 7 = .ok (.iconst 5, 1) := by decide +kernel
theorem dX13_other_8 : decode cX13_other 8 = .ok (.invokestatic 204, 3) := by decide +kernel
theorem dX13_other_11 : decode cX13_other 11 = .ok (.ifCond .eq 35, 3) := by decide +kernel
theorem dX13_other_14 : decode cX13_other 14 = .ok (.iload_n 2, 1) := by decide +kernel
theorem dX13_other_15 : decode cX13_other 15 = .ok (.iconst 1, 1) := by decide +kernel
theorem dX13_other_16 : decode cX13_other 16 = .ok (.iload_n 1, 1) := by decide +kernel
theorem dX13_other_17 : decode cX13_other 17 = .ok (.iconst 1, 1) := by decide +kernel
theorem dX13_other_18 : decode cX13_other 18 = .ok (.isub, 1) := by decide +kernel
theorem dX13_other_19 : decode cX13_other 19 = .ok (.invokestatic 204, 3) := by decide +kernel
theorem dX13_other_22 : decode cX13_other 22 = .ok (.ifCond .eq 24, 3) := by decide +kernel
theorem dX13_other_25 : decode cX13_other 25 = .ok (.iload_n 3, 1) := by decide +kernel
theorem dX13_other_26 : decode cX13_other 26 = .ok (.iconst 0, 1) := by decide +kernel
theorem dX13_other_27 : decode cX13_other 27 = .ok (.bipush 7, 2) := by decide +kernel
theorem dX13_other_29 : decode cX13_other 29 = .ok (.invokestatic 204, 3) := by decide +kernel
theorem dX13_other_32 : decode cX13_other 32 = .ok (.ifCond .eq 14, 3) := by decide +kernel
theorem dX13_other_35 : decode cX13_other 35 = .ok (.iload 4, 2) := by decide +kernel
theorem dX13_other_37 : decode cX13_other 37 = .ok (.iconst 1, 1) := by decide +kernel
theorem dX13_other_38 : decode cX13_other 38 = .ok (.bipush 6, 2) := by decide +kernel
theorem dX13_other_40 : decode cX13_other 40 = .ok (.invokestatic 204, 3) := by decide +kernel
theorem dX13_other_43 : decode cX13_other 43 = .ok (.ifCond .ne 6, 3) := by decide +kernel
theorem dX13_other_46 : decode cX13_other 46 = .ok (.bipush (-2), 2) := by decide +kernel
theorem dX13_other_48 : decode cX13_other 48 = .ok (.ireturn, 1) := by decide +kernel
theorem dX13_other_49 : decode cX13_other 49 = .ok (.aload_n 0, 1) := by decide +kernel
theorem dX13_other_50 : decode cX13_other 50 = .ok (.invokevirtual 328, 3) := by decide +kernel
theorem dX13_other_53 : decode cX13_other 53 = .ok (.aload_n 0, 1) := by decide +kernel
theorem dX13_other_54 : decode cX13_other 54 = .ok (.iload_n 1, 1) := by decide +kernel
theorem dX13_other_55 : decode cX13_other 55 = .ok (.putfield 294, 3) := by decide +kernel
theorem dX13_other_58 : decode cX13_other 58 = .ok (.aload_n 0, 1) := by decide +kernel
theorem dX13_other_59 : decode cX13_other 59 = .ok (.iload_n 2, 1) := by decide +kernel
theorem dX13_other_60 : decode cX13_other 60 = .ok (.putfield 297, 3) := by decide +kernel
theorem dX13_other_63 : decode cX13_other 63 = .ok (.iconst 0, 1) := by decide +kernel
theorem dX13_other_64 : decode cX13_other 64 = .ok (.istore 5, 2) := by decide +kernel
theorem dX13_other_66 : decode cX13_other 66 = .ok (.iload 5, 2) := by decide +kernel
theorem dX13_other_68 : decode cX13_other 68 = .ok (.iload_n 1, 1) := by decide +kernel
theorem dX13_other_69 : decode cX13_other 69 = .ok (.if_icmp .gt 27, 3) := by decide +kernel
theorem dX13_other_72 : decode cX13_other 72 = .ok (.aload_n 0, 1) := by decide +kernel
theorem dX13_other_73 : decode cX13_other 73 = .ok (.getfield 84, 3) := by decide +kernel
theorem dX13_other_76 : decode cX13_other 76 = .ok (.iload 5, 2) := by decide +kernel
theorem dX13_other_78 : decode cX13_other 78 = .ok (.iload 5, 2) := by decide +kernel
theorem dX13_other_80 : decode cX13_other 80 = .ok (.ifCond .ne 8, 3) := by decide +kernel
theorem dX13_other_83 : decode cX13_other 83 = .ok (.bipush 9, 2) := by decide +kernel
theorem dX13_other_85 : decode cX13_other 85 = .ok (.goto 4, 3) := by decide +kernel
theorem dX13_other_88 : decode cX13_other 88 = .ok (.iload_n 3, 1) := by decide +kernel
theorem dX13_other_89 : decode cX13_other 89 = .ok (.iastore, 1) := by decide +kernel
theorem dX13_other_90 : decode cX13_other 90 = .ok (.iinc 5 1, 3) := by decide +kernel
theorem dX13_other_93 : decode cX13_other 93 = .ok (.goto (-27), 3) := by decide +kernel
theorem dX13_other_96 : decode cX13_other 96 = .ok (.aload_n 0, 1) := by decide +kernel
theorem dX13_other_97 : decode cX13_other 97 = .ok (.iload 4, 2) := by decide +kernel
theorem dX13_other_99 : decode cX13_other 99 = .ok (.iconst (-1), 1) := by decide +kernel
theorem dX13_other_100 : decode cX13_other 100 = .ok (.invokevirtual 383, 3) := by decide +kernel
theorem dX13_other_103 : decode cX13_other 103 = .ok (.ireturn, 1) := by decide +kernel
theorem dX13_sayableIn_0 : decode cX13_sayableIn 0 = .ok (.iconst 0, 1) := by decide +kernel
theorem dX13_sayableIn_1 : decode cX13_sayableIn 1 = .ok (.istore_n 2, 1) := by decide +kernel
theorem dX13_sayableIn_2 : decode cX13_sayableIn 2 = .ok (.iconst 1, 1) := by decide +kernel
theorem dX13_sayableIn_3 : decode cX13_sayableIn 3 = .ok (.istore_n 3, 1) := by decide +kernel
theorem dX13_sayableIn_4 : decode cX13_sayableIn 4 = .ok (.iload_n 3, 1) := by decide +kernel
theorem dX13_sayableIn_5 : decode cX13_sayableIn 5 = .ok (.iload_n 1, 1) := by decide +kernel
theorem dX13_sayableIn_6 : decode cX13_sayableIn 6 = .ok (.if_icmp .gt 89, 3) := by decide +kernel
theorem dX13_sayableIn_9 : decode cX13_sayableIn 9 = .ok (.aload_n 0, 1) := by decide +kernel
theorem dX13_sayableIn_10 : decode cX13_sayableIn 10 = .ok (.iload_n 3, 1) := by decide +kernel
theorem dX13_sayableIn_11 : decode cX13_sayableIn 11 = .ok (.invokevirtual 365, 3) := by decide +kernel
theorem dX13_sayableIn_14 : decode cX13_sayableIn 14 = .ok (.aload_n 0, 1) := by decide +kernel
theorem dX13_sayableIn_15 : decode cX13_sayableIn 15 = .ok (.invokevirtual 368, 3) := by decide +kernel
theorem dX13_sayableIn_18 : decode cX13_sayableIn 18 = .ok (.ifCond .eq 71, 3) := by decide +kernel
theorem dX13_sayableIn_21 : decode cX13_sayableIn 21 = .ok (.aload_n 0, 1) := by decide +kernel
theorem dX13_sayableIn_22 : decode cX13_sayableIn 22 = .ok (.iconst 1, 1) := by decide +kernel
theorem dX13_sayableIn_23 : decode cX13_sayableIn 23 = .ok (.invokevirtual 362, 3) := by decide +kernel
theorem dX13_sayableIn_26 : decode cX13_sayableIn 26 = .ok (.invokestatic 345, 3) := by decide +kernel
theorem dX13_sayableIn_29 : decode cX13_sayableIn 29 = .ok (.istore 4, 2) := by decide +kernel
theorem dX13_sayableIn_31 : decode cX13_sayableIn 31 = .ok (.iconst 2, 1) := by decide +kernel
theorem dX13_sayableIn_32 : decode cX13_sayableIn 32 = .ok (.istore 5, 2) := by decide +kernel
theorem dX13_sayableIn_34 : decode cX13_sayableIn 34 = .ok (.iload 5, 2) := by decide +kernel
theorem dX13_sayableIn_36 : decode cX13_sayableIn 36 = .ok (.aload_n 0, 1) := by decide +kernel
theorem dX13_sayableIn_37 : decode cX13_sayableIn 37 = .ok (.getfield 294, 3) := by decide +kernel
theorem dX13_sayableIn_40 : decode cX13_sayableIn 40 = .ok (.if_icmp .gt 30, 3) := by decide +kernel
theorem dX13_sayableIn_43 : decode cX13_sayableIn 43 = .ok (.iload 4, 2) := by decide +kernel
theorem dX13_sayableIn_45 : decode cX13_sayableIn 45 = .ok (.ifCond .lt 25, 3) := by decide +kernel
theorem dX13_sayableIn_48 : decode cX13_sayableIn 48 = .ok (.aload_n 0, 1) := by decide +kernel
theorem dX13_sayableIn_49 : decode cX13_sayableIn 49 = .ok (.iload 5, 2) := by decide +kernel
theorem dX13_sayableIn_51 : decode cX13_sayableIn 51 = .ok (.invokevirtual 362, 3) := by decide +kernel
theorem dX13_sayableIn_54 : decode cX13_sayableIn 54 = .ok (.iconst 1, 1) := by decide +kernel
theorem dX13_sayableIn_55 : decode cX13_sayableIn 55 = .ok (.iload 4, 2) := by decide +kernel
theorem dX13_sayableIn_57 : decode cX13_sayableIn 57 = .ok (.ishl, 1) := by decide +kernel
theorem dX13_sayableIn_58 : decode cX13_sayableIn 58 = .ok (.if_icmp .eq 6, 3) := by decide +kernel
theorem dX13_sayableIn_61 : decode cX13_sayableIn 61 = .ok (.iconst (-1), 1) := by decide +kernel
theorem dX13_sayableIn_62 : decode cX13_sayableIn 62 = .ok (.istore 4, 2) := by decide +kernel
theorem dX13_sayableIn_64 : decode cX13_sayableIn 64 = .ok (.iinc 5 1, 3) := by decide +kernel
theorem dX13_sayableIn_67 : decode cX13_sayableIn 67 = .ok (.goto (-33), 3) := by decide +kernel
theorem dX13_sayableIn_70 : decode cX13_sayableIn 70 = .ok (.iload_n 2, 1) := by decide +kernel
theorem dX13_sayableIn_71 : decode cX13_sayableIn 71 = .ok (.iload 4, 2) := by decide +kernel
theorem dX13_sayableIn_73 : decode cX13_sayableIn 73 = .ok (.ifCond .ge 7, 3) := by decide +kernel
theorem dX13_sayableIn_76 : decode cX13_sayableIn 76 = .ok (.iconst 0, 1) := by decide +kernel
theorem dX13_sayableIn_77 : decode cX13_sayableIn 77 = .ok (.goto 7, 3) := by decide +kernel
theorem dX13_sayableIn_80 : decode cX13_sayableIn 80 = .ok (.iconst 1, 1) := by decide +kernel
theorem dX13_sayableIn_81 : decode cX13_sayableIn 81 = .ok (.iload 4, 2) := by decide +kernel
theorem dX13_sayableIn_83 : decode cX13_sayableIn 83 = .ok (.ishl, 1) := by decide +kernel
theorem dX13_sayableIn_84 : decode cX13_sayableIn 84 = .ok (.ior, 1) := by decide +kernel
theorem dX13_sayableIn_85 : decode cX13_sayableIn 85 = .ok (.istore_n 2, 1) := by decide +kernel
theorem dX13_sayableIn_86 : decode cX13_sayableIn 86 = .ok (.goto (-72), 3) := by decide +kernel
theorem dX13_sayableIn_89 : decode cX13_sayableIn 89 = .ok (.iinc 3 1, 3) := by decide +kernel
theorem dX13_sayableIn_92 : decode cX13_sayableIn 92 = .ok (.goto (-88), 3) := by decide +kernel
theorem dX13_sayableIn_95 : decode cX13_sayableIn 95 = .ok (.iload_n 2, 1) := by decide +kernel
theorem dX13_sayableIn_96 : decode cX13_sayableIn 96 = .ok (.ireturn, 1) := by decide +kernel
theorem dX13_many_0 : decode cX13_many 0 = .ok (.iconst 0, 1) := by decide +kernel
theorem dX13_many_1 : decode cX13_many 1 = .ok (.istore_n 1, 1) := by decide +kernel
theorem dX13_many_2 : decode cX13_many 2 = .ok (.iconst 0, 1) := by decide +kernel
theorem dX13_many_3 : decode cX13_many 3 = .ok (.istore_n 2, 1) := by decide +kernel
theorem dX13_many_4 : decode cX13_many 4 = .ok (.iload_n 2, 1) := by decide +kernel
theorem dX13_many_5 : decode cX13_many 5 = .ok (.bipush 8, 2) := by decide +kernel
theorem dX13_many_7 : decode cX13_many 7 = .ok (.if_icmp .ge 25, 3) := by decide +kernel
theorem dX13_many_10 : decode cX13_many 10 = .ok (.iload_n 1, 1) := by decide +kernel
theorem dX13_many_11 : decode cX13_many 11 = .ok (.iload_n 0, 1) := by decide +kernel
theorem dX13_many_12 : decode cX13_many 12 = .ok (.iload_n 2, 1) := by decide +kernel
theorem dX13_many_13 : decode cX13_many 13 = .ok (.invokestatic 257, 3) := by decide +kernel
theorem dX13_many_16 : decode cX13_many 16 = .ok (.ifCond .eq 7, 3) := by decide +kernel
theorem dX13_many_19 : decode cX13_many 19 = .ok (.iconst 1, 1) := by decide +kernel
theorem dX13_many_20 : decode cX13_many 20 = .ok (.goto 4, 3) := by decide +kernel
theorem dX13_many_23 : decode cX13_many 23 = .ok (.iconst 0, 1) := by decide +kernel
theorem dX13_many_24 : decode cX13_many 24 = .ok (.iadd, 1) := by decide +kernel
theorem dX13_many_25 : decode cX13_many 25 = .ok (.istore_n 1, 1) := by decide +kernel
theorem dX13_many_26 : decode cX13_many 26 = .ok (.iinc 2 1, 3) := by decide +kernel
theorem dX13_many_29 : decode cX13_many 29 = .ok (.goto (-25), 3) := by decide +kernel
theorem dX13_many_32 : decode cX13_many 32 = .ok (.iload_n 1, 1) := by decide +kernel
theorem dX13_many_33 : decode cX13_many 33 = .ok (.ireturn, 1) := by decide +kernel
theorem dX13_sayable_0 : decode cX13_sayable 0 = .ok (.aload_n 0, 1) := by decide +kernel
theorem dX13_sayable_1 : decode cX13_sayable 1 = .ok (.iconst 0, 1) := by decide +kernel
theorem dX13_sayable_2 : decode cX13_sayable 2 = .ok (.putfield 1, 3) := by decide +kernel
theorem dX13_sayable_5 : decode cX13_sayable 5 = .ok (.iload_n 1, 1) := by decide +kernel
theorem dX13_sayable_6 : decode cX13_sayable 6 = .ok (.iconst 1, 1) := by decide +kernel
theorem dX13_sayable_7 : decode cX13_sayable 7 = .ok (.iconst 5, 1) := by decide +kernel
theorem dX13_sayable_8 : decode cX13_sayable 8 = .ok (.invokestatic 204, 3) := by decide +kernel
theorem dX13_sayable_11 : decode cX13_sayable 11 = .ok (.ifCond .ne 5, 3) := by decide +kernel
theorem dX13_sayable_14 : decode cX13_sayable 14 = .ok (.iconst (-1), 1) := by decide +kernel
theorem dX13_sayable_15 : decode cX13_sayable 15 = .ok (.ireturn, 1) := by decide +kernel
theorem dX13_sayable_16 : decode cX13_sayable 16 = .ok (.aload_n 0, 1) := by decide +kernel
theorem dX13_sayable_17 : decode cX13_sayable 17 = .ok (.invokevirtual 328, 3) := by decide +kernel
theorem dX13_sayable_20 : decode cX13_sayable 20 = .ok (.aload_n 0, 1) := by decide +kernel
theorem dX13_sayable_21 : decode cX13_sayable 21 = .ok (.iload_n 1, 1) := by decide +kernel
theorem dX13_sayable_22 : decode cX13_sayable 22 = .ok (.invokevirtual 389, 3) := by decide +kernel
theorem dX13_sayable_25 : decode cX13_sayable 25 = .ok (.ireturn, 1) := by decide +kernel
theorem dX13_link_0 : decode cX13_link 0 = .ok (.aload_n 0, 1) := by decide +kernel
theorem dX13_link_1 : decode cX13_link 1 = .ok (.iconst 0, 1) := by decide +kernel
theorem dX13_link_2 : decode cX13_link 2 = .ok (.putfield 1, 3) := by decide +kernel
theorem dX13_link_5 : decode cX13_link 5 = .ok (.iload_n 1, 1) := by decide +kernel
theorem dX13_link_6 : decode cX13_link 6 = .ok (.iconst 1, 1) := by decide +kernel
theorem dX13_link_7 : decode cX13_link 7 = .ok (.iconst 4, 1) := by decide +kernel
theorem dX13_link_8 : decode cX13_link 8 = .ok (.invokestatic 204, 3) := by decide +kernel
theorem dX13_link_11 : decode cX13_link 11 = .ok (.ifCond .ne 5, 3) := by decide +kernel
theorem dX13_link_14 : decode cX13_link 14 = .ok (.iconst (-1), 1) := by decide +kernel
theorem dX13_link_15 : decode cX13_link 15 = .ok (.ireturn, 1) := by decide +kernel
theorem dX13_link_16 : decode cX13_link 16 = .ok (.aload_n 0, 1) := by decide +kernel
theorem dX13_link_17 : decode cX13_link 17 = .ok (.invokevirtual 328, 3) := by decide +kernel
theorem dX13_link_20 : decode cX13_link 20 = .ok (.iconst (-1), 1) := by decide +kernel
theorem dX13_link_21 : decode cX13_link 21 = .ok (.istore_n 2, 1) := by decide +kernel
theorem dX13_link_22 : decode cX13_link 22 = .ok (.aload_n 0, 1) := by decide +kernel
theorem dX13_link_23 : decode cX13_link 23 = .ok (.iload_n 1, 1) := by decide +kernel
theorem dX13_link_24 : decode cX13_link 24 = .ok (.invokevirtual 389, 3) := by decide +kernel
theorem dX13_link_27 : decode cX13_link 27 = .ok (.invokestatic 392, 3) := by decide +kernel
theorem dX13_link_30 : decode cX13_link 30 = .ok (.istore_n 3, 1) := by decide +kernel
theorem dX13_link_31 : decode cX13_link 31 = .ok (.iconst 0, 1) := by decide +kernel
theorem dX13_link_32 : decode cX13_link 32 = .ok (.istore 4, 2) := by decide +kernel
theorem dX13_link_34 : decode cX13_link 34 = .ok (.iload 4, 2) := by decide +kernel
theorem dX13_link_36 : decode cX13_link 36 = .ok (.aload_n 0, 1) := by decide +kernel
theorem dX13_link_37 : decode cX13_link 37 = .ok (.getfield 33, 3) := by decide +kernel
theorem dX13_link_40 : decode cX13_link 40 = .ok (.iconst 0, 1) := by decide +kernel
theorem dX13_link_41 : decode cX13_link 41 = .ok (.iaload, 1) := by decide +kernel
theorem dX13_link_42 : decode cX13_link 42 = .ok (.if_icmp .ge 105, 3) := by decide +kernel
theorem dX13_link_45 : decode cX13_link 45 = .ok (.iconst 0, 1) := by decide +kernel
theorem dX13_link_46 : decode cX13_link 46 = .ok (.istore 5, 2) := by decide +kernel
theorem dX13_link_48 : decode cX13_link 48 = .ok (.iload 5, 2) := by decide +kernel
theorem dX13_link_50 : decode cX13_link 50 = .ok (.aload_n 0, 1) := by decide +kernel
theorem dX13_link_51 : decode cX13_link 51 = .ok (.getfield 33, 3) := by decide +kernel
theorem dX13_link_54 : decode cX13_link 54 = .ok (.iconst 0, 1) := by decide +kernel
theorem dX13_link_55 : decode cX13_link 55 = .ok (.iaload, 1) := by decide +kernel
theorem dX13_link_56 : decode cX13_link 56 = .ok (.if_icmp .ge 85, 3) := by decide +kernel
theorem dX13_link_59 : decode cX13_link 59 = .ok (.aload_n 0, 1) := by decide +kernel
theorem dX13_link_60 : decode cX13_link 60 = .ok (.getfield 62, 3) := by decide +kernel
theorem dX13_link_63 : decode cX13_link 63 = .ok (.iconst 5, 1) := by decide +kernel
theorem dX13_link_64 : decode cX13_link 64 = .ok (.iload 4, 2) := by decide +kernel
theorem dX13_link_66 : decode cX13_link 66 = .ok (.imul, 1) := by decide +kernel
theorem dX13_link_67 : decode cX13_link 67 = .ok (.iload 5, 2) := by decide +kernel
theorem dX13_link_69 : decode cX13_link 69 = .ok (.iadd, 1) := by decide +kernel
theorem dX13_link_70 : decode cX13_link 70 = .ok (.iaload, 1) := by decide +kernel
theorem dX13_link_71 : decode cX13_link 71 = .ok (.iconst 1, 1) := by decide +kernel
theorem dX13_link_72 : decode cX13_link 72 = .ok (.if_icmp .ne 6, 3) := by decide +kernel
theorem dX13_link_75 : decode cX13_link 75 = .ok (.goto 60, 3) := by decide +kernel
theorem dX13_link_78 : decode cX13_link 78 = .ok (.aload_n 0, 1) := by decide +kernel
theorem dX13_link_79 : decode cX13_link 79 = .ok (.getfield 62, 3) := by decide +kernel
theorem dX13_link_82 : decode cX13_link 82 = .ok (.iconst 5, 1) := by decide +kernel
theorem dX13_link_83 : decode cX13_link 83 = .ok (.iload 4, 2) := by decide +kernel
theorem dX13_link_85 : decode cX13_link 85 = .ok (.imul, 1) := by decide +kernel
theorem dX13_link_86 : decode cX13_link 86 = .ok (.iload 5, 2) := by decide +kernel
theorem dX13_link_88 : decode cX13_link 88 = .ok (.iadd, 1) := by decide +kernel
theorem dX13_link_89 : decode cX13_link 89 = .ok (.iconst 1, 1) := by decide +kernel
theorem dX13_link_90 : decode cX13_link 90 = .ok (.iastore, 1) := by decide +kernel
theorem dX13_link_91 : decode cX13_link 91 = .ok (.aload_n 0, 1) := by decide +kernel
theorem dX13_link_92 : decode cX13_link 92 = .ok (.iload_n 1, 1) := by decide +kernel
theorem dX13_link_93 : decode cX13_link 93 = .ok (.invokevirtual 389, 3) := by decide +kernel
theorem dX13_link_96 : decode cX13_link 96 = .ok (.invokestatic 392, 3) := by decide +kernel
theorem dX13_link_99 : decode cX13_link 99 = .ok (.istore 6, 2) := by decide +kernel
theorem dX13_link_101 : decode cX13_link 101 = .ok (.aload_n 0, 1) := by decide +kernel
theorem dX13_link_102 : decode cX13_link 102 = .ok (.getfield 62, 3) := by decide +kernel
theorem dX13_link_105 : decode cX13_link 105 = .ok (.iconst 5, 1) := by decide +kernel
theorem dX13_link_106 : decode cX13_link 106 = .ok (.iload 4, 2) := by decide +kernel
theorem dX13_link_108 : decode cX13_link 108 = .ok (.imul, 1) := by decide +kernel
theorem dX13_link_109 : decode cX13_link 109 = .ok (.iload 5, 2) := by decide +kernel
theorem dX13_link_111 : decode cX13_link 111 = .ok (.iadd, 1) := by decide +kernel
theorem dX13_link_112 : decode cX13_link 112 = .ok (.iconst 0, 1) := by decide +kernel
theorem dX13_link_113 : decode cX13_link 113 = .ok (.iastore, 1) := by decide +kernel
theorem dX13_link_114 : decode cX13_link 114 = .ok (.iload 6, 2) := by decide +kernel
theorem dX13_link_116 : decode cX13_link 116 = .ok (.iload_n 3, 1) := by decide +kernel
theorem dX13_link_117 : decode cX13_link 117 = .ok (.if_icmp .gt 6, 3) := by decide +kernel
theorem dX13_link_120 : decode cX13_link 120 = .ok (.goto 15, 3) := by decide +kernel
theorem dX13_link_123 : decode cX13_link 123 = .ok (.iload 6, 2) := by decide +kernel
theorem dX13_link_125 : decode cX13_link 125 = .ok (.istore_n 3, 1) := by decide +kernel
theorem dX13_link_126 : decode cX13_link 126 = .ok (.bipush 10, 2) := by decide +kernel
theorem dX13_link_128 : decode cX13_link 128 = .ok (.iload 4, 2) := by decide +kernel
theorem dX13_link_130 : decode cX13_link 130 = .ok (.imul, 1) := by decide +kernel
theorem dX13_link_131 : decode cX13_link 131 = .ok (.iload 5, 2) := by decide +kernel
theorem dX13_link_133 : decode cX13_link 133 = .ok (.iadd, 1) := by decide +kernel
theorem dX13_link_134 : decode cX13_link 134 = .ok (.istore_n 2, 1) := by decide +kernel
theorem dX13_link_135 : decode cX13_link 135 = .ok (.iinc 5 1, 3) := by decide +kernel
theorem dX13_link_138 : decode cX13_link 138 = .ok (.goto (-90), 3) := by decide +kernel
theorem dX13_link_141 : decode cX13_link 141 = .ok (.iinc 4 1, 3) := by decide +kernel
theorem dX13_link_144 : decode cX13_link 144 = .ok (.goto (-110), 3) := by decide +kernel
theorem dX13_link_147 : decode cX13_link 147 = .ok (.iload_n 2, 1) := by decide +kernel
theorem dX13_link_148 : decode cX13_link 148 = .ok (.ireturn, 1) := by decide +kernel
