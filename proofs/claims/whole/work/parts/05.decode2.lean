theorem dX8_tellSure_0 : decode cX8_tellSure 0 = .ok (.aload_n 0, 1) := by decide +kernel
theorem dX8_tellSure_1 : decode cX8_tellSure 1 = .ok (.iconst 0, 1) := by decide +kernel
theorem dX8_tellSure_2 : decode cX8_tellSure 2 = .ok (.putfield 125, 3) := by decide +kernel
theorem dX8_tellSure_5 : decode cX8_tellSure 5 = .ok (.aload_n 0, 1) := by decide +kernel
theorem dX8_tellSure_6 : decode cX8_tellSure 6 = .ok (.iconst 0, 1) := by decide +kernel
theorem dX8_tellSure_7 : decode cX8_tellSure 7 = .ok (.putfield 128, 3) := by decide +kernel
theorem dX8_tellSure_10 : decode cX8_tellSure 10 = .ok (.iconst 0, 1) := by decide +kernel
theorem dX8_tellSure_11 : decode cX8_tellSure 11 = .ok (.istore_n 1, 1) := by decide +kernel
theorem dX8_tellSure_12 : decode cX8_tellSure 12 = .ok (.iload_n 1, 1) := by decide +kernel
theorem dX8_tellSure_13 : decode cX8_tellSure 13 = .ok (.aload_n 0, 1) := by decide +kernel
theorem dX8_tellSure_14 : decode cX8_tellSure 14 = .ok (.getfield 38, 3) := by decide +kernel
theorem dX8_tellSure_17 : decode cX8_tellSure 17 = .ok (.getfield 131, 3) := by decide +kernel
theorem dX8_tellSure_20 : decode cX8_tellSure 20 = .ok (.if_icmp .ge 70, 3) := by decide +kernel
theorem dX8_tellSure_23 : decode cX8_tellSure 23 = .ok (.aload_n 0, 1) := by decide +kernel
theorem dX8_tellSure_24 : decode cX8_tellSure 24 = .ok (.getfield 105, 3) := by decide +kernel
theorem dX8_tellSure_27 : decode cX8_tellSure 27 = .ok (.ifCond .eq 63, 3) := by decide +kernel
theorem dX8_tellSure_30 : decode cX8_tellSure 30 = .ok (.aload_n 0, 1) := by decide +kernel
theorem dX8_tellSure_31 : decode cX8_tellSure 31 = .ok (.getfield 105, 3) := by decide +kernel
theorem dX8_tellSure_34 : decode cX8_tellSure 34 = .ok (.iload_n 1, 1) := by decide +kernel
theorem dX8_tellSure_35 : decode cX8_tellSure 35 = .ok (.invokestatic 134, 3) := by decide +kernel
theorem dX8_tellSure_38 : decode cX8_tellSure 38 = .ok (.iand, 1) := by decide +kernel
theorem dX8_tellSure_39 : decode cX8_tellSure 39 = .ok (.istore_n 2, 1) := by decide +kernel
theorem dX8_tellSure_40 : decode cX8_tellSure 40 = .ok (.aload_n 0, 1) := by decide +kernel
theorem dX8_tellSure_41 : decode cX8_tellSure 41 = .ok (.dup, 1) := by decide +kernel
theorem dX8_tellSure_42 : decode cX8_tellSure 42 = .ok (.getfield 125, 3) := by decide +kernel
theorem dX8_tellSure_45 : decode cX8_tellSure 45 = .ok (.iload_n 2, 1) := by decide +kernel
theorem dX8_tellSure_46 : decode cX8_tellSure 46 = .ok (.aload_n 0, 1) := by decide +kernel
theorem dX8_tellSure_47 : decode cX8_tellSure 47 = .ok (.getfield 105, 3) := by decide +kernel
theorem dX8_tellSure_50 : decode cX8_tellSure 50 = .ok (.if_icmp .ne 9, 3) := by decide +kernel
theorem dX8_tellSure_53 : decode cX8_tellSure 53 = .ok (.iconst 1, 1) := by decide +kernel
theorem dX8_tellSure_54 : decode cX8_tellSure 54 = .ok (.iload_n 1, 1) := by decide +kernel
theorem dX8_tellSure_55 : decode cX8_tellSure 55 = .ok (.ishl, 1) := by decide +kernel
theorem dX8_tellSure_56 : decode cX8_tellSure 56 = .ok (.goto 4, 3) := by decide +kernel
theorem dX8_tellSure_59 : decode cX8_tellSure 59 = .ok (.iconst 0, 1) := by decide +kernel
theorem dX8_tellSure_60 : decode cX8_tellSure 60 = .ok (.ior, 1) := by decide +kernel
theorem dX8_tellSure_61 : decode cX8_tellSure 61 = .ok (.putfield 125, 3) := by decide +kernel
theorem dX8_tellSure_64 : decode cX8_tellSure 64 = .ok (.aload_n 0, 1) := by decide +kernel
theorem dX8_tellSure_65 : decode cX8_tellSure 65 = .ok (.dup, 1) := by decide +kernel
theorem dX8_tellSure_66 : decode cX8_tellSure 66 = .ok (.getfield 128, 3) := by decide +kernel
theorem dX8_tellSure_69 : decode cX8_tellSure 69 = .ok (.iload_n 2, 1) := by decide +kernel
theorem dX8_tellSure_70 : decode cX8_tellSure 70 = .ok (.ifCond .ne 9, 3) := by decide +kernel
theorem dX8_tellSure_73 : decode cX8_tellSure 73 = .ok (.iconst 1, 1) := by decide +kernel
theorem dX8_tellSure_74 : decode cX8_tellSure 74 = .ok (.iload_n 1, 1) := by decide +kernel
theorem dX8_tellSure_75 : decode cX8_tellSure 75 = .ok (.ishl, 1) := by decide +kernel
theorem dX8_tellSure_76 : decode cX8_tellSure 76 = .ok (.goto 4, 3) := by decide +kernel
theorem dX8_tellSure_79 : decode cX8_tellSure 79 = .ok (.iconst 0, 1) := by decide +kernel
theorem dX8_tellSure_80 : decode cX8_tellSure 80 = .ok (.ior, 1) := by decide +kernel
theorem dX8_tellSure_81 : decode cX8_tellSure 81 = .ok (.putfield 128, 3) := by decide +kernel
theorem dX8_tellSure_84 : decode cX8_tellSure 84 = .ok (.iinc 1 1, 3) := by decide +kernel
theorem dX8_tellSure_87 : decode cX8_tellSure 87 = .ok (.goto (-75), 3) := by decide +kernel
theorem dX8_tellSure_90 : decode cX8_tellSure 90 = .ok (.return_, 1) := by decide +kernel
theorem dX8_weighAll_0 : decode cX8_weighAll 0 = .ok (.aload_n 0, 1) := by decide +kernel
theorem dX8_weighAll_1 : decode cX8_weighAll 1 = .ok (.getfield 31, 3) := by decide +kernel
theorem dX8_weighAll_4 : decode cX8_weighAll 4 = .ok (.lconst 0, 1) := by decide +kernel
theorem dX8_weighAll_5 : decode cX8_weighAll 5 = .ok (.invokestatic 84, 3) := by decide +kernel
theorem dX8_weighAll_8 : decode cX8_weighAll 8 = .ok (.iconst 0, 1) := by decide +kernel
theorem dX8_weighAll_9 : decode cX8_weighAll 9 = .ok (.istore_n 1, 1) := by decide +kernel
theorem dX8_weighAll_10 : decode cX8_weighAll 10 = .ok (.iload_n 1, 1) := by decide +kernel
theorem dX8_weighAll_11 : decode cX8_weighAll 11 = .ok (.aload_n 0, 1) := by decide +kernel
theorem dX8_weighAll_12 : decode cX8_weighAll 12 = .ok (.getfield 38, 3) := by decide +kernel
theorem dX8_weighAll_15 : decode cX8_weighAll 15 = .ok (.getfield 112, 3) := by decide +kernel
theorem dX8_weighAll_18 : decode cX8_weighAll 18 = .ok (.if_icmp .ge 39, 3) := by decide +kernel
theorem dX8_weighAll_21 : decode cX8_weighAll 21 = .ok (.aload_n 0, 1) := by decide +kernel
theorem dX8_weighAll_22 : decode cX8_weighAll 22 = .ok (.getfield 31, 3) := by decide +kernel
theorem dX8_weighAll_25 : decode cX8_weighAll 25 = .ok (.aload_n 0, 1) := by decide +kernel
theorem dX8_weighAll_26 : decode cX8_weighAll 26 = .ok (.getfield 48, 3) := by decide +kernel
theorem dX8_weighAll_29 : decode cX8_weighAll 29 = .ok (.bipush 6, 2) := by decide +kernel
theorem dX8_weighAll_31 : decode cX8_weighAll 31 = .ok (.imul, 1) := by decide +kernel
theorem dX8_weighAll_32 : decode cX8_weighAll 32 = .ok (.iload_n 1, 1) := by decide +kernel
theorem dX8_weighAll_33 : decode cX8_weighAll 33 = .ok (.iadd, 1) := by decide +kernel
theorem dX8_weighAll_34 : decode cX8_weighAll 34 = .ok (.aload_n 0, 1) := by decide +kernel
theorem dX8_weighAll_35 : decode cX8_weighAll 35 = .ok (.getfield 38, 3) := by decide +kernel
theorem dX8_weighAll_38 : decode cX8_weighAll 38 = .ok (.iload_n 1, 1) := by decide +kernel
theorem dX8_weighAll_39 : decode cX8_weighAll 39 = .ok (.invokevirtual 108, 3) := by decide +kernel
theorem dX8_weighAll_42 : decode cX8_weighAll 42 = .ok (.ifCond .eq 7, 3) := by decide +kernel
theorem dX8_weighAll_45 : decode cX8_weighAll 45 = .ok (.lconst 1, 1) := by decide +kernel
theorem dX8_weighAll_46 : decode cX8_weighAll 46 = .ok (.goto 4, 3) := by decide +kernel
theorem dX8_weighAll_49 : decode cX8_weighAll 49 = .ok (.lconst 0, 1) := by decide +kernel
theorem dX8_weighAll_50 : decode cX8_weighAll 50 = .ok (.lastore, 1) := by decide +kernel
theorem dX8_weighAll_51 : decode cX8_weighAll 51 = .ok (.iinc 1 1, 3) := by decide +kernel
theorem dX8_weighAll_54 : decode cX8_weighAll 54 = .ok (.goto (-44), 3) := by decide +kernel
theorem dX8_weighAll_57 : decode cX8_weighAll 57 = .ok (.aload_n 0, 1) := by decide +kernel
theorem dX8_weighAll_58 : decode cX8_weighAll 58 = .ok (.getfield 48, 3) := by decide +kernel
theorem dX8_weighAll_61 : decode cX8_weighAll 61 = .ok (.iconst 1, 1) := by decide +kernel
theorem dX8_weighAll_62 : decode cX8_weighAll 62 = .ok (.isub, 1) := by decide +kernel
theorem dX8_weighAll_63 : decode cX8_weighAll 63 = .ok (.istore_n 1, 1) := by decide +kernel
theorem dX8_weighAll_64 : decode cX8_weighAll 64 = .ok (.iload_n 1, 1) := by decide +kernel
theorem dX8_weighAll_65 : decode cX8_weighAll 65 = .ok (.ifCond .lt 43, 3) := by decide +kernel
theorem dX8_weighAll_68 : decode cX8_weighAll 68 = .ok (.iconst 0, 1) := by decide +kernel
theorem dX8_weighAll_69 : decode cX8_weighAll 69 = .ok (.istore_n 2, 1) := by decide +kernel
theorem dX8_weighAll_70 : decode cX8_weighAll 70 = .ok (.iload_n 2, 1) := by decide +kernel
theorem dX8_weighAll_71 : decode cX8_weighAll 71 = .ok (.aload_n 0, 1) := by decide +kernel
theorem dX8_weighAll_72 : decode cX8_weighAll 72 = .ok (.getfield 38, 3) := by decide +kernel
theorem dX8_weighAll_75 : decode cX8_weighAll 75 = .ok (.getfield 93, 3) := by decide +kernel
theorem dX8_weighAll_78 : decode cX8_weighAll 78 = .ok (.if_icmp .ge 24, 3) := by decide +kernel
theorem dX8_weighAll_81 : decode cX8_weighAll 81 = .ok (.aload_n 0, 1) := by decide +kernel
theorem dX8_weighAll_82 : decode cX8_weighAll 82 = .ok (.iload_n 1, 1) := by decide +kernel
theorem dX8_weighAll_83 : decode cX8_weighAll 83 = .ok (.iload_n 2, 1) := by decide +kernel
theorem dX8_weighAll_84 : decode cX8_weighAll 84 = .ok (.invokevirtual 96, 3) := by decide +kernel
theorem dX8_weighAll_87 : decode cX8_weighAll 87 = .ok (.ifCond .eq 9, 3) := by decide +kernel
theorem dX8_weighAll_90 : decode cX8_weighAll 90 = .ok (.aload_n 0, 1) := by decide +kernel
theorem dX8_weighAll_91 : decode cX8_weighAll 91 = .ok (.iload_n 1, 1) := by decide +kernel
theorem dX8_weighAll_92 : decode cX8_weighAll 92 = .ok (.iload_n 2, 1) := by decide +kernel
theorem dX8_weighAll_93 : decode cX8_weighAll 93 = .ok (.invokevirtual 137, 3) := by decide +kernel
theorem dX8_weighAll_96 : decode cX8_weighAll 96 = .ok (.iinc 2 1, 3) := by decide +kernel
theorem dX8_weighAll_99 : decode cX8_weighAll 99 = .ok (.goto (-29), 3) := by decide +kernel
theorem dX8_weighAll_102 : decode cX8_weighAll 102 = .ok (.iinc 1 (-1), 3) := by decide +kernel
theorem dX8_weighAll_105 : decode cX8_weighAll 105 = .ok (.goto (-41), 3) := by decide +kernel
theorem dX8_weighAll_108 : decode cX8_weighAll 108 = .ok (.return_, 1) := by decide +kernel
theorem dX8_weighWith_0 : decode cX8_weighWith 0 = .ok (.iload_n 1, 1) := by decide +kernel
theorem dX8_weighWith_1 : decode cX8_weighWith 1 = .ok (.bipush 6, 2) := by decide +kernel
theorem dX8_weighWith_3 : decode cX8_weighWith 3 = .ok (.imul, 1) := by decide +kernel
theorem dX8_weighWith_4 : decode cX8_weighWith 4 = .ok (.istore_n 3, 1) := by decide +kernel
theorem dX8_weighWith_5 : decode cX8_weighWith 5 = .ok (.iconst 0, 1) := by decide +kernel
theorem dX8_weighWith_6 : decode cX8_weighWith 6 = .ok (.istore 4, 2) := by decide +kernel
theorem dX8_weighWith_8 : decode cX8_weighWith 8 = .ok (.iload 4, 2) := by decide +kernel
theorem dX8_weighWith_10 : decode cX8_weighWith 10 = .ok (.aload_n 0, 1) := by decide +kernel
theorem dX8_weighWith_11 : decode cX8_weighWith 11 = .ok (.getfield 38, 3) := by decide +kernel
theorem dX8_weighWith_14 : decode cX8_weighWith 14 = .ok (.getfield 112, 3) := by decide +kernel
theorem dX8_weighWith_17 : decode cX8_weighWith 17 = .ok (.if_icmp .ge 103, 3) := by decide +kernel
theorem dX8_weighWith_20 : decode cX8_weighWith 20 = .ok (.aload_n 0, 1) := by decide +kernel
theorem dX8_weighWith_21 : decode cX8_weighWith 21 = .ok (.getfield 38, 3) := by decide +kernel
theorem dX8_weighWith_24 : decode cX8_weighWith 24 = .ok (.iload_n 2, 1) := by decide +kernel
theorem dX8_weighWith_25 : decode cX8_weighWith 25 = .ok (.iload 4, 2) := by decide +kernel
theorem dX8_weighWith_27 : decode cX8_weighWith 27 = .ok (.invokevirtual 118, 3) := by decide +kernel
theorem dX8_weighWith_30 : decode cX8_weighWith 30 = .ok (.ifCond .eq 26, 3) := by decide +kernel
theorem dX8_weighWith_33 : decode cX8_weighWith 33 = .ok (.aload_n 0, 1) := by decide +kernel
theorem dX8_weighWith_34 : decode cX8_weighWith 34 = .ok (.iload_n 1, 1) := by decide +kernel
theorem dX8_weighWith_35 : decode cX8_weighWith 35 = .ok (.iload_n 2, 1) := by decide +kernel
theorem dX8_weighWith_36 : decode cX8_weighWith 36 = .ok (.invokevirtual 141, 3) := by decide +kernel
theorem dX8_weighWith_39 : decode cX8_weighWith 39 = .ok (.aload_n 0, 1) := by decide +kernel
theorem dX8_weighWith_40 : decode cX8_weighWith 40 = .ok (.getfield 31, 3) := by decide +kernel
theorem dX8_weighWith_43 : decode cX8_weighWith 43 = .ok (.iload_n 3, 1) := by decide +kernel
theorem dX8_weighWith_44 : decode cX8_weighWith 44 = .ok (.iconst 5, 1) := by decide +kernel
theorem dX8_weighWith_45 : decode cX8_weighWith 45 = .ok (.iadd, 1) := by decide +kernel
theorem dX8_weighWith_46 : decode cX8_weighWith 46 = .ok (.iconst 1, 1) := by decide +kernel
theorem dX8_weighWith_47 : decode cX8_weighWith 47 = .ok (.iadd, 1) := by decide +kernel
theorem dX8_weighWith_48 : decode cX8_weighWith 48 = .ok (.iload 4, 2) := by decide +kernel
theorem dX8_weighWith_50 : decode cX8_weighWith 50 = .ok (.iadd, 1) := by decide +kernel
theorem dX8_weighWith_51 : decode cX8_weighWith 51 = .ok (.laload, 1) := by decide +kernel
theorem dX8_weighWith_52 : decode cX8_weighWith 52 = .ok (.lmul, 1) := by decide +kernel
theorem dX8_weighWith_53 : decode cX8_weighWith 53 = .ok (.goto 4, 3) := by decide +kernel
theorem dX8_weighWith_56 : decode cX8_weighWith 56 = .ok (.lconst 0, 1) := by decide +kernel
theorem dX8_weighWith_57 : decode cX8_weighWith 57 = .ok (.lstore 5, 2) := by decide +kernel
theorem dX8_weighWith_59 : decode cX8_weighWith 59 = .ok (.iconst 0, 1) := by decide +kernel
theorem dX8_weighWith_60 : decode cX8_weighWith 60 = .ok (.istore 7, 2) := by decide +kernel
theorem dX8_weighWith_62 : decode cX8_weighWith 62 = .ok (.iload 7, 2) := by decide +kernel
theorem dX8_weighWith_64 : decode cX8_weighWith 64 = .ok (.iconst 5, 1) := by decide +kernel
theorem dX8_weighWith_65 : decode cX8_weighWith 65 = .ok (.if_icmp .gt 49, 3) := by decide +kernel
theorem dX8_weighWith_68 : decode cX8_weighWith 68 = .ok (.lload 5, 2) := by decide +kernel
theorem dX8_weighWith_70 : decode cX8_weighWith 70 = .ok (.aload_n 0, 1) := by decide +kernel
theorem dX8_weighWith_71 : decode cX8_weighWith 71 = .ok (.getfield 31, 3) := by decide +kernel
theorem dX8_weighWith_74 : decode cX8_weighWith 74 = .ok (.iload_n 3, 1) := by decide +kernel
theorem dX8_weighWith_75 : decode cX8_weighWith 75 = .ok (.iload 7, 2) := by decide +kernel
theorem dX8_weighWith_77 : decode cX8_weighWith 77 = .ok (.iadd, 1) := by decide +kernel
theorem dX8_weighWith_78 : decode cX8_weighWith 78 = .ok (.laload, 1) := by decide +kernel
theorem dX8_weighWith_79 : decode cX8_weighWith 79 = .ok (.lcmp, 1) := by decide +kernel
theorem dX8_weighWith_80 : decode cX8_weighWith 80 = .ok (.ifCond .le 28, 3) := by decide +kernel
theorem dX8_weighWith_83 : decode cX8_weighWith 83 = .ok (.aload_n 0, 1) := by decide +kernel
theorem dX8_weighWith_84 : decode cX8_weighWith 84 = .ok (.getfield 38, 3) := by decide +kernel
theorem dX8_weighWith_87 : decode cX8_weighWith 87 = .ok (.iload 7, 2) := by decide +kernel
theorem dX8_weighWith_89 : decode cX8_weighWith 89 = .ok (.iload 4, 2) := by decide +kernel
theorem dX8_weighWith_91 : decode cX8_weighWith 91 = .ok (.invokevirtual 115, 3) := by decide +kernel
theorem dX8_weighWith_94 : decode cX8_weighWith 94 = .ok (.ifCond .eq 14, 3) := by decide +kernel
theorem dX8_weighWith_97 : decode cX8_weighWith 97 = .ok (.aload_n 0, 1) := by decide +kernel
theorem dX8_weighWith_98 : decode cX8_weighWith 98 = .ok (.getfield 31, 3) := by decide +kernel
theorem dX8_weighWith_101 : decode cX8_weighWith 101 = .ok (.iload_n 3, 1) := by decide +kernel
theorem dX8_weighWith_102 : decode cX8_weighWith 102 = .ok (.iload 7, 2) := by decide +kernel
theorem dX8_weighWith_104 : decode cX8_weighWith 104 = .ok (.iadd, 1) := by decide +kernel
theorem dX8_weighWith_105 : decode cX8_weighWith 105 = .ok (.lload 5, 2) := by decide +kernel
theorem dX8_weighWith_107 : decode cX8_weighWith 107 = .ok (.lastore, 1) := by decide +kernel
theorem dX8_weighWith_108 : decode cX8_weighWith 108 = .ok (.iinc 7 1, 3) := by decide +kernel
theorem dX8_weighWith_111 : decode cX8_weighWith 111 = .ok (.goto (-49), 3) := by decide +kernel
theorem dX8_weighWith_114 : decode cX8_weighWith 114 = .ok (.iinc 4 1, 3) := by decide +kernel
theorem dX8_weighWith_117 : decode cX8_weighWith 117 = .ok (.goto (-109), 3) := by decide +kernel
theorem dX8_weighWith_120 : decode cX8_weighWith 120 = .ok (.return_, 1) := by decide +kernel
theorem dX8_weightAt_0 : decode cX8_weightAt 0 = .ok (.aload_n 0, 1) := by decide +kernel
theorem dX8_weightAt_1 : decode cX8_weightAt 1 = .ok (.getfield 20, 3) := by decide +kernel
theorem dX8_weightAt_4 : decode cX8_weightAt 4 = .ok (.iload_n 1, 1) := by decide +kernel
theorem dX8_weightAt_5 : decode cX8_weightAt 5 = .ok (.iaload, 1) := by decide +kernel
theorem dX8_weightAt_6 : decode cX8_weightAt 6 = .ok (.iconst (-1), 1) := by decide +kernel
theorem dX8_weightAt_7 : decode cX8_weightAt 7 = .ok (.if_icmp .ne 16, 3) := by decide +kernel
theorem dX8_weightAt_10 : decode cX8_weightAt 10 = .ok (.aload_n 0, 1) := by decide +kernel
theorem dX8_weightAt_11 : decode cX8_weightAt 11 = .ok (.getfield 38, 3) := by decide +kernel
theorem dX8_weightAt_14 : decode cX8_weightAt 14 = .ok (.getfield 145, 3) := by decide +kernel
theorem dX8_weightAt_17 : decode cX8_weightAt 17 = .ok (.iload_n 2, 1) := by decide +kernel
theorem dX8_weightAt_18 : decode cX8_weightAt 18 = .ok (.iaload, 1) := by decide +kernel
theorem dX8_weightAt_19 : decode cX8_weightAt 19 = .ok (.i2l, 1) := by decide +kernel
theorem dX8_weightAt_20 : decode cX8_weightAt 20 = .ok (.goto 4, 3) := by decide +kernel
theorem dX8_weightAt_23 : decode cX8_weightAt 23 = .ok (.lconst 1, 1) := by decide +kernel
theorem dX8_weightAt_24 : decode cX8_weightAt 24 = .ok (.lreturn, 1) := by decide +kernel
theorem dX8_chooseRow_0 : decode cX8_chooseRow 0 = .ok (.aload_n 0, 1) := by decide +kernel
theorem dX8_chooseRow_1 : decode cX8_chooseRow 1 = .ok (.getfield 14, 3) := by decide +kernel
theorem dX8_chooseRow_4 : decode cX8_chooseRow 4 = .ok (.iconst 0, 1) := by decide +kernel
theorem dX8_chooseRow_5 : decode cX8_chooseRow 5 = .ok (.putfield 148, 3) := by decide +kernel
theorem dX8_chooseRow_8 : decode cX8_chooseRow 8 = .ok (.lconst 1, 1) := by decide +kernel
theorem dX8_chooseRow_9 : decode cX8_chooseRow 9 = .ok (.lstore_n 1, 1) := by decide +kernel
theorem dX8_chooseRow_10 : decode cX8_chooseRow 10 = .ok (.bipush 32, 2) := by decide +kernel
theorem dX8_chooseRow_12 : decode cX8_chooseRow 12 = .ok (.istore_n 3, 1) := by decide +kernel
theorem dX8_chooseRow_13 : decode cX8_chooseRow 13 = .ok (.iconst 0, 1) := by decide +kernel
theorem dX8_chooseRow_14 : decode cX8_chooseRow 14 = .ok (.istore 4, 2) := by decide +kernel
theorem dX8_chooseRow_16 : decode cX8_chooseRow 16 = .ok (.iload 4, 2) := by decide +kernel
theorem dX8_chooseRow_18 : decode cX8_chooseRow 18 = .ok (.aload_n 0, 1) := by decide +kernel
theorem dX8_chooseRow_19 : decode cX8_chooseRow 19 = .ok (.getfield 48, 3) := by decide +kernel
theorem dX8_chooseRow_22 : decode cX8_chooseRow 22 = .ok (.if_icmp .ge 53, 3) := by decide +kernel
theorem dX8_chooseRow_25 : decode cX8_chooseRow 25 = .ok (.aload_n 0, 1) := by decide +kernel
theorem dX8_chooseRow_26 : decode cX8_chooseRow 26 = .ok (.iload 4, 2) := by decide +kernel
theorem dX8_chooseRow_28 : decode cX8_chooseRow 28 = .ok (.iload_n 3, 1) := by decide +kernel
theorem dX8_chooseRow_29 : decode cX8_chooseRow 29 = .ok (.lload_n 1, 1) := by decide +kernel
theorem dX8_chooseRow_30 : decode cX8_chooseRow 30 = .ok (.invokevirtual 151, 3) := by decide +kernel
theorem dX8_chooseRow_33 : decode cX8_chooseRow 33 = .ok (.istore 5, 2) := by decide +kernel
theorem dX8_chooseRow_35 : decode cX8_chooseRow 35 = .ok (.iload 5, 2) := by decide +kernel
theorem dX8_chooseRow_37 : decode cX8_chooseRow 37 = .ok (.ifCond .ge 4, 3) := by decide +kernel
theorem dX8_chooseRow_40 : decode cX8_chooseRow 40 = .ok (.return_, 1) := by decide +kernel
theorem dX8_chooseRow_41 : decode cX8_chooseRow 41 = .ok (.aload_n 0, 1) := by decide +kernel
theorem dX8_chooseRow_42 : decode cX8_chooseRow 42 = .ok (.getfield 14, 3) := by decide +kernel
theorem dX8_chooseRow_45 : decode cX8_chooseRow 45 = .ok (.iload 5, 2) := by decide +kernel
theorem dX8_chooseRow_47 : decode cX8_chooseRow 47 = .ok (.invokevirtual 155, 3) := by decide +kernel
theorem dX8_chooseRow_50 : decode cX8_chooseRow 50 = .ok (.lload_n 1, 1) := by decide +kernel
theorem dX8_chooseRow_51 : decode cX8_chooseRow 51 = .ok (.aload_n 0, 1) := by decide +kernel
theorem dX8_chooseRow_52 : decode cX8_chooseRow 52 = .ok (.iload 4, 2) := by decide +kernel
theorem dX8_chooseRow_54 : decode cX8_chooseRow 54 = .ok (.iload 5, 2) := by decide +kernel
theorem dX8_chooseRow_56 : decode cX8_chooseRow 56 = .ok (.invokevirtual 141, 3) := by decide +kernel
theorem dX8_chooseRow_59 : decode cX8_chooseRow 59 = .ok (.lmul, 1) := by decide +kernel
theorem dX8_chooseRow_60 : decode cX8_chooseRow 60 = .ok (.lstore_n 1, 1) := by decide +kernel
theorem dX8_chooseRow_61 : decode cX8_chooseRow 61 = .ok (.aload_n 0, 1) := by decide +kernel
theorem dX8_chooseRow_62 : decode cX8_chooseRow 62 = .ok (.iload_n 3, 1) := by decide +kernel
theorem dX8_chooseRow_63 : decode cX8_chooseRow 63 = .ok (.iload 5, 2) := by decide +kernel
theorem dX8_chooseRow_65 : decode cX8_chooseRow 65 = .ok (.invokevirtual 158, 3) := by decide +kernel
theorem dX8_chooseRow_68 : decode cX8_chooseRow 68 = .ok (.istore_n 3, 1) := by decide +kernel
theorem dX8_chooseRow_69 : decode cX8_chooseRow 69 = .ok (.iinc 4 1, 3) := by decide +kernel
theorem dX8_chooseRow_72 : decode cX8_chooseRow 72 = .ok (.goto (-56), 3) := by decide +kernel
theorem dX8_chooseRow_75 : decode cX8_chooseRow 75 = .ok (.return_, 1) := by decide +kernel
theorem dX8_firstAt_0 : decode cX8_firstAt 0 = .ok (.iconst 0, 1) := by decide +kernel
theorem dX8_firstAt_1 : decode cX8_firstAt 1 = .ok (.istore 5, 2) := by decide +kernel
theorem dX8_firstAt_3 : decode cX8_firstAt 3 = .ok (.iload 5, 2) := by decide +kernel
theorem dX8_firstAt_5 : decode cX8_firstAt 5 = .ok (.aload_n 0, 1) := by decide +kernel
theorem dX8_firstAt_6 : decode cX8_firstAt 6 = .ok (.getfield 38, 3) := by decide +kernel
theorem dX8_firstAt_9 : decode cX8_firstAt 9 = .ok (.getfield 93, 3) := by decide +kernel
theorem dX8_firstAt_12 : decode cX8_firstAt 12 = .ok (.if_icmp .ge 102, 3) := by decide +kernel
theorem dX8_firstAt_15 : decode cX8_firstAt 15 = .ok (.aload_n 0, 1) := by decide +kernel
theorem dX8_firstAt_16 : decode cX8_firstAt 16 = .ok (.iload_n 1, 1) := by decide +kernel
theorem dX8_firstAt_17 : decode cX8_firstAt 17 = .ok (.iload 5, 2) := by decide +kernel
theorem dX8_firstAt_19 : decode cX8_firstAt 19 = .ok (.invokevirtual 96, 3) := by decide +kernel
theorem dX8_firstAt_22 : decode cX8_firstAt 22 = .ok (.ifCond .eq 13, 3) := by decide +kernel
theorem dX8_firstAt_25 : decode cX8_firstAt 25 = .ok (.aload_n 0, 1) := by decide +kernel
theorem dX8_firstAt_26 : decode cX8_firstAt 26 = .ok (.iload_n 2, 1) := by decide +kernel
theorem dX8_firstAt_27 : decode cX8_firstAt 27 = .ok (.iload 5, 2) := by decide +kernel
theorem dX8_firstAt_29 : decode cX8_firstAt 29 = .ok (.invokevirtual 158, 3) := by decide +kernel
theorem dX8_firstAt_32 : decode cX8_firstAt 32 = .ok (.goto 4, 3) := by decide +kernel
theorem dX8_firstAt_35 : decode cX8_firstAt 35 = .ok (.iconst 0, 1) := by decide +kernel
theorem dX8_firstAt_36 : decode cX8_firstAt 36 = .ok (.istore 6, 2) := by decide +kernel
theorem dX8_firstAt_38 : decode cX8_firstAt 38 = .ok (.iconst 0, 1) := by decide +kernel
theorem dX8_firstAt_39 : decode cX8_firstAt 39 = .ok (.istore 7, 2) := by decide +kernel
theorem dX8_firstAt_41 : decode cX8_firstAt 41 = .ok (.iload 7, 2) := by decide +kernel
theorem dX8_firstAt_43 : decode cX8_firstAt 43 = .ok (.aload_n 0, 1) := by decide +kernel
theorem dX8_firstAt_44 : decode cX8_firstAt 44 = .ok (.getfield 38, 3) := by decide +kernel
theorem dX8_firstAt_47 : decode cX8_firstAt 47 = .ok (.getfield 112, 3) := by decide +kernel
theorem dX8_firstAt_50 : decode cX8_firstAt 50 = .ok (.if_icmp .ge 58, 3) := by decide +kernel
theorem dX8_firstAt_53 : decode cX8_firstAt 53 = .ok (.aload_n 0, 1) := by decide +kernel
theorem dX8_firstAt_54 : decode cX8_firstAt 54 = .ok (.getfield 31, 3) := by decide +kernel
theorem dX8_firstAt_57 : decode cX8_firstAt 57 = .ok (.iload_n 1, 1) := by decide +kernel
theorem dX8_firstAt_58 : decode cX8_firstAt 58 = .ok (.iconst 1, 1) := by decide +kernel
theorem dX8_firstAt_59 : decode cX8_firstAt 59 = .ok (.iadd, 1) := by decide +kernel
theorem dX8_firstAt_60 : decode cX8_firstAt 60 = .ok (.bipush 6, 2) := by decide +kernel
theorem dX8_firstAt_62 : decode cX8_firstAt 62 = .ok (.imul, 1) := by decide +kernel
theorem dX8_firstAt_63 : decode cX8_firstAt 63 = .ok (.iload 7, 2) := by decide +kernel
theorem dX8_firstAt_65 : decode cX8_firstAt 65 = .ok (.iadd, 1) := by decide +kernel
theorem dX8_firstAt_66 : decode cX8_firstAt 66 = .ok (.laload, 1) := by decide +kernel
theorem dX8_firstAt_67 : decode cX8_firstAt 67 = .ok (.lstore 8, 2) := by decide +kernel
theorem dX8_firstAt_69 : decode cX8_firstAt 69 = .ok (.iload 6, 2) := by decide +kernel
theorem dX8_firstAt_71 : decode cX8_firstAt 71 = .ok (.iload 7, 2) := by decide +kernel
theorem dX8_firstAt_73 : decode cX8_firstAt 73 = .ok (.ishr, 1) := by decide +kernel
theorem dX8_firstAt_74 : decode cX8_firstAt 74 = .ok (.iconst 1, 1) := by decide +kernel
theorem dX8_firstAt_75 : decode cX8_firstAt 75 = .ok (.iand, 1) := by decide +kernel
theorem dX8_firstAt_76 : decode cX8_firstAt 76 = .ok (.ifCond .eq 26, 3) := by decide +kernel
theorem dX8_firstAt_79 : decode cX8_firstAt 79 = .ok (.lload_n 3, 1) := by decide +kernel
theorem dX8_firstAt_80 : decode cX8_firstAt 80 = .ok (.aload_n 0, 1) := by decide +kernel
theorem dX8_firstAt_81 : decode cX8_firstAt 81 = .ok (.iload_n 1, 1) := by decide +kernel
theorem dX8_firstAt_82 : decode cX8_firstAt 82 = .ok (.iload 5, 2) := by decide +kernel
theorem dX8_firstAt_84 : decode cX8_firstAt 84 = .ok (.invokevirtual 141, 3) := by decide +kernel
theorem dX8_firstAt_87 : decode cX8_firstAt 87 = .ok (.lmul, 1) := by decide +kernel
theorem dX8_firstAt_88 : decode cX8_firstAt 88 = .ok (.lload 8, 2) := by decide +kernel
theorem dX8_firstAt_90 : decode cX8_firstAt 90 = .ok (.lmul, 1) := by decide +kernel
theorem dX8_firstAt_91 : decode cX8_firstAt 91 = .ok (.aload_n 0, 1) := by decide +kernel
theorem dX8_firstAt_92 : decode cX8_firstAt 92 = .ok (.getfield 77, 3) := by decide +kernel
theorem dX8_firstAt_95 : decode cX8_firstAt 95 = .ok (.lcmp, 1) := by decide +kernel
theorem dX8_firstAt_96 : decode cX8_firstAt 96 = .ok (.ifCond .ne 6, 3) := by decide +kernel
theorem dX8_firstAt_99 : decode cX8_firstAt 99 = .ok (.iload 5, 2) := by decide +kernel
theorem dX8_firstAt_101 : decode cX8_firstAt 101 = .ok (.ireturn, 1) := by decide +kernel
theorem dX8_firstAt_102 : decode cX8_firstAt 102 = .ok (.iinc 7 1, 3) := by decide +kernel
theorem dX8_firstAt_105 : decode cX8_firstAt 105 = .ok (.goto (-64), 3) := by decide +kernel
theorem dX8_firstAt_108 : decode cX8_firstAt 108 = .ok (.iinc 5 1, 3) := by decide +kernel
theorem dX8_firstAt_111 : decode cX8_firstAt 111 = .ok (.goto (-108), 3) := by decide +kernel
theorem dX8_firstAt_114 : decode cX8_firstAt 114 = .ok (.iconst (-1), 1) := by decide +kernel
theorem dX8_firstAt_115 : decode cX8_firstAt 115 = .ok (.ireturn, 1) := by decide +kernel
theorem dX8_sortsBehind_0 : decode cX8_sortsBehind 0 = .ok (.iconst 0, 1) := by decide +kernel
theorem dX8_sortsBehind_1 : decode cX8_sortsBehind 1 = .ok (.istore_n 3, 1) := by decide +kernel
theorem dX8_sortsBehind_2 : decode cX8_sortsBehind 2 = .ok (.iconst 0, 1) := by decide +kernel
theorem dX8_sortsBehind_3 : decode cX8_sortsBehind 3 = .ok (.istore 4, 2) := by decide +kernel
theorem dX8_sortsBehind_5 : decode cX8_sortsBehind 5 = .ok (.iload 4, 2) := by decide +kernel
theorem dX8_sortsBehind_7 : decode cX8_sortsBehind 7 = .ok (.aload_n 0, 1) := by decide +kernel
theorem dX8_sortsBehind_8 : decode cX8_sortsBehind 8 = .ok (.getfield 38, 3) := by decide +kernel
theorem dX8_sortsBehind_11 : decode cX8_sortsBehind 11 = .ok (.getfield 112, 3) := by decide +kernel
theorem dX8_sortsBehind_14 : decode cX8_sortsBehind 14 = .ok (.if_icmp .ge 67, 3) := by decide +kernel
theorem dX8_sortsBehind_17 : decode cX8_sortsBehind 17 = .ok (.iconst 0, 1) := by decide +kernel
theorem dX8_sortsBehind_18 : decode cX8_sortsBehind 18 = .ok (.istore 5, 2) := by decide +kernel
theorem dX8_sortsBehind_20 : decode cX8_sortsBehind 20 = .ok (.iload 5, 2) := by decide +kernel
theorem dX8_sortsBehind_22 : decode cX8_sortsBehind 22 = .ok (.iconst 5, 1) := by decide +kernel
theorem dX8_sortsBehind_23 : decode cX8_sortsBehind 23 = .ok (.if_icmp .gt 52, 3) := by decide +kernel
theorem dX8_sortsBehind_26 : decode cX8_sortsBehind 26 = .ok (.aload_n 0, 1) := by decide +kernel
theorem dX8_sortsBehind_27 : decode cX8_sortsBehind 27 = .ok (.getfield 38, 3) := by decide +kernel
theorem dX8_sortsBehind_30 : decode cX8_sortsBehind 30 = .ok (.iload_n 2, 1) := by decide +kernel
theorem dX8_sortsBehind_31 : decode cX8_sortsBehind 31 = .ok (.iload 4, 2) := by decide +kernel
theorem dX8_sortsBehind_33 : decode cX8_sortsBehind 33 = .ok (.invokevirtual 118, 3) := by decide +kernel
theorem dX8_sortsBehind_36 : decode cX8_sortsBehind 36 = .ok (.ifCond .eq 39, 3) := by decide +kernel
theorem dX8_sortsBehind_39 : decode cX8_sortsBehind 39 = .ok (.iload_n 1, 1) := by decide +kernel
theorem dX8_sortsBehind_40 : decode cX8_sortsBehind 40 = .ok (.iload 5, 2) := by decide +kernel
theorem dX8_sortsBehind_42 : decode cX8_sortsBehind 42 = .ok (.ishr, 1) := by decide +kernel
theorem dX8_sortsBehind_43 : decode cX8_sortsBehind 43 = .ok (.iconst 1, 1) := by decide +kernel
theorem dX8_sortsBehind_44 : decode cX8_sortsBehind 44 = .ok (.iand, 1) := by decide +kernel
theorem dX8_sortsBehind_45 : decode cX8_sortsBehind 45 = .ok (.ifCond .eq 24, 3) := by decide +kernel
theorem dX8_sortsBehind_48 : decode cX8_sortsBehind 48 = .ok (.aload_n 0, 1) := by decide +kernel
theorem dX8_sortsBehind_49 : decode cX8_sortsBehind 49 = .ok (.getfield 38, 3) := by decide +kernel
theorem dX8_sortsBehind_52 : decode cX8_sortsBehind 52 = .ok (.iload 5, 2) := by decide +kernel
theorem dX8_sortsBehind_54 : decode cX8_sortsBehind 54 = .ok (.iload 4, 2) := by decide +kernel
theorem dX8_sortsBehind_56 : decode cX8_sortsBehind 56 = .ok (.invokevirtual 115, 3) := by decide +kernel
theorem dX8_sortsBehind_59 : decode cX8_sortsBehind 59 = .ok (.ifCond .eq 10, 3) := by decide +kernel
theorem dX8_sortsBehind_62 : decode cX8_sortsBehind 62 = .ok (.iload_n 3, 1) := by decide +kernel
theorem dX8_sortsBehind_63 : decode cX8_sortsBehind 63 = .ok (.iconst 1, 1) := by decide +kernel
theorem dX8_sortsBehind_64 : decode cX8_sortsBehind 64 = .ok (.iload 4, 2) := by decide +kernel
theorem dX8_sortsBehind_66 : decode cX8_sortsBehind 66 = .ok (.ishl, 1) := by decide +kernel
theorem dX8_sortsBehind_67 : decode cX8_sortsBehind 67 = .ok (.ior, 1) := by decide +kernel
theorem dX8_sortsBehind_68 : decode cX8_sortsBehind 68 = .ok (.istore_n 3, 1) := by decide +kernel
theorem dX8_sortsBehind_69 : decode cX8_sortsBehind 69 = .ok (.iinc 5 1, 3) := by decide +kernel
theorem dX8_sortsBehind_72 : decode cX8_sortsBehind 72 = .ok (.goto (-52), 3) := by decide +kernel
theorem dX8_sortsBehind_75 : decode cX8_sortsBehind 75 = .ok (.iinc 4 1, 3) := by decide +kernel
theorem dX8_sortsBehind_78 : decode cX8_sortsBehind 78 = .ok (.goto (-73), 3) := by decide +kernel
theorem dX8_sortsBehind_81 : decode cX8_sortsBehind 81 = .ok (.iload_n 3, 1) := by decide +kernel
theorem dX8_sortsBehind_82 : decode cX8_sortsBehind 82 = .ok (.ireturn, 1) := by decide +kernel
theorem dX9_init_0 : decode cX9_init 0 = .ok (.aload_n 0, 1) := by decide +kernel
theorem dX9_init_1 : decode cX9_init 1 = .ok (.invokespecial 3, 3) := by decide +kernel
theorem dX9_init_4 : decode cX9_init 4 = .ok (.return_, 1) := by decide +kernel
theorem dX9_withLetter_0 : decode cX9_withLetter 0 = .ok (.iload_n 0, 1) := by decide +kernel
theorem dX9_withLetter_1 : decode cX9_withLetter 1 = .ok (.iconst 5, 1) := by decide +kernel
theorem dX9_withLetter_2 : decode cX9_withLetter 2 = .ok (.ishl, 1) := by decide +kernel
theorem dX9_withLetter_3 : decode cX9_withLetter 3 = .ok (.iload_n 1, 1) := by decide +kernel
theorem dX9_withLetter_4 : decode cX9_withLetter 4 = .ok (.bipush 97, 2) := by decide +kernel
theorem dX9_withLetter_6 : decode cX9_withLetter 6 = .ok (.isub, 1) := by decide +kernel
theorem dX9_withLetter_7 : decode cX9_withLetter 7 = .ok (.iconst 1, 1) := by decide +kernel
theorem dX9_withLetter_8 : decode cX9_withLetter 8 = .ok (.iadd, 1) := by decide +kernel
theorem dX9_withLetter_9 : decode cX9_withLetter 9 = .ok (.ior, 1) := by decide +kernel
theorem dX9_withLetter_10 : decode cX9_withLetter 10 = .ok (.ireturn, 1) := by decide +kernel
theorem dX9_letterFromLast_0 : decode cX9_letterFromLast 0 = .ok (.iload_n 0, 1) := by decide +kernel
theorem dX9_letterFromLast_1 : decode cX9_letterFromLast 1 = .ok (.iconst 5, 1) := by decide +kernel
theorem dX9_letterFromLast_2 : decode cX9_letterFromLast 2 = .ok (.iload_n 1, 1) := by decide +kernel
theorem dX9_letterFromLast_3 : decode cX9_letterFromLast 3 = .ok (.imul, 1) := by decide +kernel
theorem dX9_letterFromLast_4 : decode cX9_letterFromLast 4 = .ok (.iushr, 1) := by decide +kernel
theorem dX9_letterFromLast_5 : decode cX9_letterFromLast 5 = .ok (.bipush 31, 2) := by decide +kernel
theorem dX9_letterFromLast_7 : decode cX9_letterFromLast 7 = .ok (.iand, 1) := by decide +kernel
theorem dX9_letterFromLast_8 : decode cX9_letterFromLast 8 = .ok (.ireturn, 1) := by decide +kernel
theorem dX9_begin_0 : decode cX9_begin 0 = .ok (.aload_n 0, 1) := by decide +kernel
theorem dX9_begin_1 : decode cX9_begin 1 = .ok (.aload_n 1, 1) := by decide +kernel
theorem dX9_begin_2 : decode cX9_begin 2 = .ok (.putfield 9, 3) := by decide +kernel
theorem dX9_begin_5 : decode cX9_begin 5 = .ok (.aload_n 0, 1) := by decide +kernel
theorem dX9_begin_6 : decode cX9_begin 6 = .ok (.iload_n 2, 1) := by decide +kernel
theorem dX9_begin_7 : decode cX9_begin 7 = .ok (.putfield 15, 3) := by decide +kernel
theorem dX9_begin_10 : decode cX9_begin 10 = .ok (.aload_n 0, 1) := by decide +kernel
theorem dX9_begin_11 : decode cX9_begin 11 = .ok (.iconst 0, 1) := by decide +kernel
theorem dX9_begin_12 : decode cX9_begin 12 = .ok (.putfield 19, 3) := by decide +kernel
theorem dX9_begin_15 : decode cX9_begin 15 = .ok (.aload_n 0, 1) := by decide +kernel
theorem dX9_begin_16 : decode cX9_begin 16 = .ok (.invokevirtual 22, 3) := by decide +kernel
theorem dX9_begin_19 : decode cX9_begin 19 = .ok (.return_, 1) := by decide +kernel
theorem dX9_isTooLong_0 : decode cX9_isTooLong 0 = .ok (.aload_n 0, 1) := by decide +kernel
theorem dX9_isTooLong_1 : decode cX9_isTooLong 1 = .ok (.getfield 9, 3) := by decide +kernel
theorem dX9_isTooLong_4 : decode cX9_isTooLong 4 = .ok (.getfield 25, 3) := by decide +kernel
theorem dX9_isTooLong_7 : decode cX9_isTooLong 7 = .ok (.aload_n 0, 1) := by decide +kernel
theorem dX9_isTooLong_8 : decode cX9_isTooLong 8 = .ok (.getfield 15, 3) := by decide +kernel
theorem dX9_isTooLong_11 : decode cX9_isTooLong 11 = .ok (.if_icmp .le 7, 3) := by decide +kernel
theorem dX9_isTooLong_14 : decode cX9_isTooLong 14 = .ok (.iconst 1, 1) := by decide +kernel
theorem dX9_isTooLong_15 : decode cX9_isTooLong 15 = .ok (.goto 4, 3) := by decide +kernel
theorem dX9_isTooLong_18 : decode cX9_isTooLong 18 = .ok (.iconst 0, 1) := by decide +kernel
theorem dX9_isTooLong_19 : decode cX9_isTooLong 19 = .ok (.ireturn, 1) := by decide +kernel
theorem dX9_advance_0 : decode cX9_advance 0 = .ok (.aload_n 0, 1) := by decide +kernel
theorem dX9_advance_1 : decode cX9_advance 1 = .ok (.getfield 9, 3) := by decide +kernel
theorem dX9_advance_4 : decode cX9_advance 4 = .ok (.getfield 25, 3) := by decide +kernel
theorem dX9_advance_7 : decode cX9_advance 7 = .ok (.aload_n 0, 1) := by decide +kernel
theorem dX9_advance_8 : decode cX9_advance 8 = .ok (.getfield 15, 3) := by decide +kernel
theorem dX9_advance_11 : decode cX9_advance 11 = .ok (.invokestatic 30, 3) := by decide +kernel
theorem dX9_advance_14 : decode cX9_advance 14 = .ok (.istore_n 1, 1) := by decide +kernel
theorem dX9_advance_15 : decode cX9_advance 15 = .ok (.aload_n 0, 1) := by decide +kernel
theorem dX9_advance_16 : decode cX9_advance 16 = .ok (.aload_n 0, 1) := by decide +kernel
theorem dX9_advance_17 : decode cX9_advance 17 = .ok (.getfield 19, 3) := by decide +kernel
theorem dX9_advance_20 : decode cX9_advance 20 = .ok (.iload_n 1, 1) := by decide +kernel
theorem dX9_advance_21 : decode cX9_advance 21 = .ok (.invokestatic 30, 3) := by decide +kernel
theorem dX9_advance_24 : decode cX9_advance 24 = .ok (.putfield 36, 3) := by decide +kernel
theorem dX9_advance_27 : decode cX9_advance 27 = .ok (.aload_n 0, 1) := by decide +kernel
theorem dX9_advance_28 : decode cX9_advance 28 = .ok (.getfield 36, 3) := by decide +kernel
theorem dX9_advance_31 : decode cX9_advance 31 = .ok (.iload_n 1, 1) := by decide +kernel
theorem dX9_advance_32 : decode cX9_advance 32 = .ok (.if_icmp .ge 50, 3) := by decide +kernel
theorem dX9_advance_35 : decode cX9_advance 35 = .ok (.aload_n 0, 1) := by decide +kernel
theorem dX9_advance_36 : decode cX9_advance 36 = .ok (.getfield 9, 3) := by decide +kernel
theorem dX9_advance_39 : decode cX9_advance 39 = .ok (.getfield 39, 3) := by decide +kernel
theorem dX9_advance_42 : decode cX9_advance 42 = .ok (.aload_n 0, 1) := by decide +kernel
theorem dX9_advance_43 : decode cX9_advance 43 = .ok (.getfield 36, 3) := by decide +kernel
theorem dX9_advance_46 : decode cX9_advance 46 = .ok (.iaload, 1) := by decide +kernel
theorem dX9_advance_47 : decode cX9_advance 47 = .ok (.bipush 32, 2) := by decide +kernel
theorem dX9_advance_49 : decode cX9_advance 49 = .ok (.if_icmp .eq 20, 3) := by decide +kernel
theorem dX9_advance_52 : decode cX9_advance 52 = .ok (.aload_n 0, 1) := by decide +kernel
theorem dX9_advance_53 : decode cX9_advance 53 = .ok (.getfield 9, 3) := by decide +kernel
theorem dX9_advance_56 : decode cX9_advance 56 = .ok (.getfield 39, 3) := by decide +kernel
theorem dX9_advance_59 : decode cX9_advance 59 = .ok (.aload_n 0, 1) := by decide +kernel
theorem dX9_advance_60 : decode cX9_advance 60 = .ok (.getfield 36, 3) := by decide +kernel
theorem dX9_advance_63 : decode cX9_advance 63 = .ok (.iaload, 1) := by decide +kernel
theorem dX9_advance_64 : decode cX9_advance 64 = .ok (.bipush 10, 2) := by decide +kernel
theorem dX9_advance_66 : decode cX9_advance 66 = .ok (.if_icmp .ne 16, 3) := by decide +kernel
theorem dX9_advance_69 : decode cX9_advance 69 = .ok (.aload_n 0, 1) := by decide +kernel
theorem dX9_advance_70 : decode cX9_advance 70 = .ok (.dup, 1) := by decide +kernel
theorem dX9_advance_71 : decode cX9_advance 71 = .ok (.getfield 36, 3) := by decide +kernel
theorem dX9_advance_74 : decode cX9_advance 74 = .ok (.iconst 1, 1) := by decide +kernel
theorem dX9_advance_75 : decode cX9_advance 75 = .ok (.iadd, 1) := by decide +kernel
theorem dX9_advance_76 : decode cX9_advance 76 = .ok (.putfield 36, 3) := by decide +kernel
theorem dX9_advance_79 : decode cX9_advance 79 = .ok (.goto (-52), 3) := by decide +kernel
theorem dX9_advance_82 : decode cX9_advance 82 = .ok (.iconst 0, 1) := by decide +kernel
theorem dX9_advance_83 : decode cX9_advance 83 = .ok (.istore_n 2, 1) := by decide +kernel
theorem dX9_advance_84 : decode cX9_advance 84 = .ok (.iconst 0, 1) := by decide +kernel
theorem dX9_advance_85 : decode cX9_advance 85 = .ok (.istore_n 3, 1) := by decide +kernel
theorem dX9_advance_86 : decode cX9_advance 86 = .ok (.aload_n 0, 1) := by decide +kernel
theorem dX9_advance_87 : decode cX9_advance 87 = .ok (.iconst 0, 1) := by decide +kernel
theorem dX9_advance_88 : decode cX9_advance 88 = .ok (.putfield 43, 3) := by decide +kernel
theorem dX9_advance_91 : decode cX9_advance 91 = .ok (.aload_n 0, 1) := by decide +kernel
theorem dX9_advance_92 : decode cX9_advance 92 = .ok (.getfield 36, 3) := by decide +kernel
theorem dX9_advance_95 : decode cX9_advance 95 = .ok (.istore 4, 2) := by decide +kernel
theorem dX9_advance_97 : decode cX9_advance 97 = .ok (.aload_n 0, 1) := by decide +kernel
theorem dX9_advance_98 : decode cX9_advance 98 = .ok (.getfield 36, 3) := by decide +kernel
theorem dX9_advance_101 : decode cX9_advance 101 = .ok (.iload_n 1, 1) := by decide +kernel
theorem dX9_advance_102 : decode cX9_advance 102 = .ok (.if_icmp .ge 135, 3) := by decide +kernel
theorem dX9_advance_105 : decode cX9_advance 105 = .ok (.iload 4, 2) := by decide +kernel
theorem dX9_advance_107 : decode cX9_advance 107 = .ok (.aload_n 0, 1) := by decide +kernel
theorem dX9_advance_108 : decode cX9_advance 108 = .ok (.getfield 9, 3) := by decide +kernel
theorem dX9_advance_111 : decode cX9_advance 111 = .ok (.getfield 25, 3) := by decide +kernel
theorem dX9_advance_114 : decode cX9_advance 114 = .ok (.if_icmp .ge 123, 3) := by decide +kernel
theorem dX9_advance_117 : decode cX9_advance 117 = .ok (.aload_n 0, 1) := by decide +kernel
theorem dX9_advance_118 : decode cX9_advance 118 = .ok (.getfield 9, 3) := by decide +kernel
theorem dX9_advance_121 : decode cX9_advance 121 = .ok (.getfield 39, 3) := by decide +kernel
theorem dX9_advance_124 : decode cX9_advance 124 = .ok (.iload 4, 2) := by decide +kernel
theorem dX9_advance_126 : decode cX9_advance 126 = .ok (.iaload, 1) := by decide +kernel
theorem dX9_advance_127 : decode cX9_advance 127 = .ok (.invokestatic 46, 3) := by decide +kernel
theorem dX9_advance_130 : decode cX9_advance 130 = .ok (.ifCond .eq 107, 3) := by decide +kernel
theorem dX9_advance_133 : decode cX9_advance 133 = .ok (.aload_n 0, 1) := by decide +kernel
theorem dX9_advance_134 : decode cX9_advance 134 = .ok (.getfield 9, 3) := by decide +kernel
theorem dX9_advance_137 : decode cX9_advance 137 = .ok (.getfield 39, 3) := by decide +kernel
theorem dX9_advance_140 : decode cX9_advance 140 = .ok (.iload 4, 2) := by decide +kernel
theorem dX9_advance_142 : decode cX9_advance 142 = .ok (.iaload, 1) := by decide +kernel
theorem dX9_advance_143 : decode cX9_advance 143 = .ok (.bipush 57, 2) := by decide +kernel
theorem dX9_advance_145 : decode cX9_advance 145 = .ok (.if_icmp .gt 7, 3) := by decide +kernel
theorem dX9_advance_148 : decode cX9_advance 148 = .ok (.iconst 1, 1) := by decide +kernel
theorem dX9_advance_149 : decode cX9_advance 149 = .ok (.goto 4, 3) := by decide +kernel
theorem dX9_advance_152 : decode cX9_advance 152 = .ok (.iconst 0, 1) := by decide +kernel
theorem dX9_advance_153 : decode cX9_advance 153 = .ok (.istore 5, 2) := by decide +kernel
theorem dX9_advance_155 : decode cX9_advance 155 = .ok (.aload_n 0, 1) := by decide +kernel
theorem dX9_advance_156 : decode cX9_advance 156 = .ok (.iload 5, 2) := by decide +kernel
theorem dX9_advance_158 : decode cX9_advance 158 = .ok (.ifCond .eq 27, 3) := by decide +kernel
theorem dX9_advance_161 : decode cX9_advance 161 = .ok (.aload_n 0, 1) := by decide +kernel
theorem dX9_advance_162 : decode cX9_advance 162 = .ok (.getfield 43, 3) := by decide +kernel
theorem dX9_advance_165 : decode cX9_advance 165 = .ok (.bipush 10, 2) := by decide +kernel
theorem dX9_advance_167 : decode cX9_advance 167 = .ok (.imul, 1) := by decide +kernel
theorem dX9_advance_168 : decode cX9_advance 168 = .ok (.aload_n 0, 1) := by decide +kernel
theorem dX9_advance_169 : decode cX9_advance 169 = .ok (.getfield 9, 3) := by decide +kernel
theorem dX9_advance_172 : decode cX9_advance 172 = .ok (.getfield 39, 3) := by decide +kernel
theorem dX9_advance_175 : decode cX9_advance 175 = .ok (.iload 4, 2) := by decide +kernel
theorem dX9_advance_177 : decode cX9_advance 177 = .ok (.iaload, 1) := by decide +kernel
theorem dX9_advance_178 : decode cX9_advance 178 = .ok (.iadd, 1) := by decide +kernel
theorem dX9_advance_179 : decode cX9_advance 179 = .ok (.bipush 48, 2) := by decide +kernel
theorem dX9_advance_181 : decode cX9_advance 181 = .ok (.isub, 1) := by decide +kernel
theorem dX9_advance_182 : decode cX9_advance 182 = .ok (.goto 20, 3) := by decide +kernel
theorem dX9_advance_185 : decode cX9_advance 185 = .ok (.aload_n 0, 1) := by decide +kernel
theorem dX9_advance_186 : decode cX9_advance 186 = .ok (.getfield 43, 3) := by decide +kernel
theorem dX9_advance_189 : decode cX9_advance 189 = .ok (.aload_n 0, 1) := by decide +kernel
theorem dX9_advance_190 : decode cX9_advance 190 = .ok (.getfield 9, 3) := by decide +kernel
theorem dX9_advance_193 : decode cX9_advance 193 = .ok (.getfield 39, 3) := by decide +kernel
theorem dX9_advance_196 : decode cX9_advance 196 = .ok (.iload 4, 2) := by decide +kernel
theorem dX9_advance_198 : decode cX9_advance 198 = .ok (.iaload, 1) := by decide +kernel
theorem dX9_advance_199 : decode cX9_advance 199 = .ok (.invokestatic 50, 3) := by decide +kernel
theorem dX9_advance_202 : decode cX9_advance 202 = .ok (.putfield 43, 3) := by decide +kernel
theorem dX9_advance_205 : decode cX9_advance 205 = .ok (.iload_n 2, 1) := by decide +kernel
theorem dX9_advance_206 : decode cX9_advance 206 = .ok (.iload 5, 2) := by decide +kernel
theorem dX9_advance_208 : decode cX9_advance 208 = .ok (.ifCond .eq 7, 3) := by decide +kernel
theorem dX9_advance_211 : decode cX9_advance 211 = .ok (.iconst 0, 1) := by decide +kernel
theorem dX9_advance_212 : decode cX9_advance 212 = .ok (.goto 4, 3) := by decide +kernel
theorem dX9_advance_215 : decode cX9_advance 215 = .ok (.iconst 1, 1) := by decide +kernel
theorem dX9_advance_216 : decode cX9_advance 216 = .ok (.iadd, 1) := by decide +kernel
theorem dX9_advance_217 : decode cX9_advance 217 = .ok (.istore_n 2, 1) := by decide +kernel
theorem dX9_advance_218 : decode cX9_advance 218 = .ok (.iload_n 3, 1) := by decide +kernel
theorem dX9_advance_219 : decode cX9_advance 219 = .ok (.iload 5, 2) := by decide +kernel
theorem dX9_advance_221 : decode cX9_advance 221 = .ok (.ifCond .eq 7, 3) := by decide +kernel
theorem dX9_advance_224 : decode cX9_advance 224 = .ok (.iconst 1, 1) := by decide +kernel
theorem dX9_advance_225 : decode cX9_advance 225 = .ok (.goto 4, 3) := by decide +kernel
theorem dX9_advance_228 : decode cX9_advance 228 = .ok (.iconst 0, 1) := by decide +kernel
theorem dX9_advance_229 : decode cX9_advance 229 = .ok (.iadd, 1) := by decide +kernel
theorem dX9_advance_230 : decode cX9_advance 230 = .ok (.istore_n 3, 1) := by decide +kernel
theorem dX9_advance_231 : decode cX9_advance 231 = .ok (.iinc 4 1, 3) := by decide +kernel
theorem dX9_advance_234 : decode cX9_advance 234 = .ok (.goto (-137), 3) := by decide +kernel
theorem dX9_advance_237 : decode cX9_advance 237 = .ok (.aload_n 0, 1) := by decide +kernel
theorem dX9_advance_238 : decode cX9_advance 238 = .ok (.iload 4, 2) := by decide +kernel
theorem dX9_advance_240 : decode cX9_advance 240 = .ok (.aload_n 0, 1) := by decide +kernel
theorem dX9_advance_241 : decode cX9_advance 241 = .ok (.getfield 36, 3) := by decide +kernel
theorem dX9_advance_244 : decode cX9_advance 244 = .ok (.iconst 1, 1) := by decide +kernel
theorem dX9_advance_245 : decode cX9_advance 245 = .ok (.iadd, 1) := by decide +kernel
theorem dX9_advance_246 : decode cX9_advance 246 = .ok (.invokestatic 53, 3) := by decide +kernel
theorem dX9_advance_249 : decode cX9_advance 249 = .ok (.putfield 19, 3) := by decide +kernel
theorem dX9_advance_252 : decode cX9_advance 252 = .ok (.aload_n 0, 1) := by decide +kernel
theorem dX9_advance_253 : decode cX9_advance 253 = .ok (.aload_n 0, 1) := by decide +kernel
theorem dX9_advance_254 : decode cX9_advance 254 = .ok (.getfield 36, 3) := by decide +kernel
theorem dX9_advance_257 : decode cX9_advance 257 = .ok (.iload_n 1, 1) := by decide +kernel
theorem dX9_advance_258 : decode cX9_advance 258 = .ok (.if_icmp .lt 7, 3) := by decide +kernel
theorem dX9_advance_261 : decode cX9_advance 261 = .ok (.iconst 0, 1) := by decide +kernel
theorem dX9_advance_262 : decode cX9_advance 262 = .ok (.goto 9, 3) := by decide +kernel
theorem dX9_advance_265 : decode cX9_advance 265 = .ok (.aload_n 0, 1) := by decide +kernel
theorem dX9_advance_266 : decode cX9_advance 266 = .ok (.iload_n 2, 1) := by decide +kernel
theorem dX9_advance_267 : decode cX9_advance 267 = .ok (.iload_n 3, 1) := by decide +kernel
theorem dX9_advance_268 : decode cX9_advance 268 = .ok (.invokevirtual 56, 3) := by decide +kernel
theorem dX9_advance_271 : decode cX9_advance 271 = .ok (.putfield 59, 3) := by decide +kernel
theorem dX9_advance_274 : decode cX9_advance 274 = .ok (.aload_n 0, 1) := by decide +kernel
theorem dX9_advance_275 : decode cX9_advance 275 = .ok (.aload_n 0, 1) := by decide +kernel
theorem dX9_advance_276 : decode cX9_advance 276 = .ok (.getfield 59, 3) := by decide +kernel
theorem dX9_advance_279 : decode cX9_advance 279 = .ok (.iconst 1, 1) := by decide +kernel
theorem dX9_advance_280 : decode cX9_advance 280 = .ok (.if_icmp .ne 13, 3) := by decide +kernel
theorem dX9_advance_283 : decode cX9_advance 283 = .ok (.aload_n 0, 1) := by decide +kernel
theorem dX9_advance_284 : decode cX9_advance 284 = .ok (.getfield 43, 3) := by decide +kernel
theorem dX9_advance_287 : decode cX9_advance 287 = .ok (.invokestatic 62, 3) := by decide +kernel
theorem dX9_advance_290 : decode cX9_advance 290 = .ok (.goto 4, 3) := by decide +kernel
theorem dX9_advance_293 : decode cX9_advance 293 = .ok (.aconst_null, 1) := by decide +kernel
theorem dX9_advance_294 : decode cX9_advance 294 = .ok (.putfield 68, 3) := by decide +kernel
theorem dX9_advance_297 : decode cX9_advance 297 = .ok (.return_, 1) := by decide +kernel
theorem dX9_kindOf_0 : decode cX9_kindOf 0 = .ok (.iload_n 1, 1) := by decide +kernel
theorem dX9_kindOf_1 : decode cX9_kindOf 1 = .ok (.ifCond .ne 30, 3) := by decide +kernel
theorem dX9_kindOf_4 : decode cX9_kindOf 4 = .ok (.iload_n 2, 1) := by decide +kernel
theorem dX9_kindOf_5 : decode cX9_kindOf 5 = .ok (.ifCond .ne 26, 3) := by decide +kernel
theorem dX9_kindOf_8 : decode cX9_kindOf 8 = .ok (.aload_n 0, 1) := by decide +kernel
theorem dX9_kindOf_9 : decode cX9_kindOf 9 = .ok (.getfield 9, 3) := by decide +kernel
theorem dX9_kindOf_12 : decode cX9_kindOf 12 = .ok (.getfield 39, 3) := by decide +kernel
theorem dX9_kindOf_15 : decode cX9_kindOf 15 = .ok (.aload_n 0, 1) := by decide +kernel
theorem dX9_kindOf_16 : decode cX9_kindOf 16 = .ok (.getfield 36, 3) := by decide +kernel
theorem dX9_kindOf_19 : decode cX9_kindOf 19 = .ok (.iaload, 1) := by decide +kernel
theorem dX9_kindOf_20 : decode cX9_kindOf 20 = .ok (.bipush 59, 2) := by decide +kernel
theorem dX9_kindOf_22 : decode cX9_kindOf 22 = .ok (.if_icmp .ne 7, 3) := by decide +kernel
theorem dX9_kindOf_25 : decode cX9_kindOf 25 = .ok (.iconst 3, 1) := by decide +kernel
theorem dX9_kindOf_26 : decode cX9_kindOf 26 = .ok (.goto 4, 3) := by decide +kernel
theorem dX9_kindOf_29 : decode cX9_kindOf 29 = .ok (.iconst 4, 1) := by decide +kernel
theorem dX9_kindOf_30 : decode cX9_kindOf 30 = .ok (.ireturn, 1) := by decide +kernel
theorem dX9_kindOf_31 : decode cX9_kindOf 31 = .ok (.iload_n 2, 1) := by decide +kernel
theorem dX9_kindOf_32 : decode cX9_kindOf 32 = .ok (.ifCond .ne 15, 3) := by decide +kernel
theorem dX9_kindOf_35 : decode cX9_kindOf 35 = .ok (.iload_n 1, 1) := by decide +kernel
theorem dX9_kindOf_36 : decode cX9_kindOf 36 = .ok (.bipush 6, 2) := by decide +kernel
theorem dX9_kindOf_38 : decode cX9_kindOf 38 = .ok (.if_icmp .gt 7, 3) := by decide +kernel
theorem dX9_kindOf_41 : decode cX9_kindOf 41 = .ok (.iconst 1, 1) := by decide +kernel
theorem dX9_kindOf_42 : decode cX9_kindOf 42 = .ok (.goto 4, 3) := by decide +kernel
theorem dX9_kindOf_45 : decode cX9_kindOf 45 = .ok (.iconst 4, 1) := by decide +kernel
theorem dX9_kindOf_46 : decode cX9_kindOf 46 = .ok (.ireturn, 1) := by decide +kernel
theorem dX9_kindOf_47 : decode cX9_kindOf 47 = .ok (.iload_n 1, 1) := by decide +kernel
theorem dX9_kindOf_48 : decode cX9_kindOf 48 = .ok (.ifCond .ne 12, 3) := by decide +kernel
theorem dX9_kindOf_51 : decode cX9_kindOf 51 = .ok (.iload_n 2, 1) := by decide +kernel
theorem dX9_kindOf_52 : decode cX9_kindOf 52 = .ok (.iconst 2, 1) := by decide +kernel
theorem dX9_kindOf_53 : decode cX9_kindOf 53 = .ok (.if_icmp .gt 7, 3) := by decide +kernel
theorem dX9_kindOf_56 : decode cX9_kindOf 56 = .ok (.iconst 2, 1) := by decide +kernel
theorem dX9_kindOf_57 : decode cX9_kindOf 57 = .ok (.goto 4, 3) := by decide +kernel
theorem dX9_kindOf_60 : decode cX9_kindOf 60 = .ok (.iconst 4, 1) := by decide +kernel
theorem dX9_kindOf_61 : decode cX9_kindOf 61 = .ok (.ireturn, 1) := by decide +kernel
theorem dX9_isOfWord_0 : decode cX9_isOfWord 0 = .ok (.iload_n 0, 1) := by decide +kernel
theorem dX9_isOfWord_1 : decode cX9_isOfWord 1 = .ok (.bipush 48, 2) := by decide +kernel
theorem dX9_isOfWord_3 : decode cX9_isOfWord 3 = .ok (.if_icmp .lt 9, 3) := by decide +kernel
theorem dX9_isOfWord_6 : decode cX9_isOfWord 6 = .ok (.iload_n 0, 1) := by decide +kernel
theorem dX9_isOfWord_7 : decode cX9_isOfWord 7 = .ok (.bipush 57, 2) := by decide +kernel
theorem dX9_isOfWord_9 : decode cX9_isOfWord 9 = .ok (.if_icmp .le 15, 3) := by decide +kernel
theorem dX9_isOfWord_12 : decode cX9_isOfWord 12 = .ok (.iload_n 0, 1) := by decide +kernel
theorem dX9_isOfWord_13 : decode cX9_isOfWord 13 = .ok (.bipush 97, 2) := by decide +kernel
theorem dX9_isOfWord_15 : decode cX9_isOfWord 15 = .ok (.if_icmp .lt 13, 3) := by decide +kernel
theorem dX9_isOfWord_18 : decode cX9_isOfWord 18 = .ok (.iload_n 0, 1) := by decide +kernel
theorem dX9_isOfWord_19 : decode cX9_isOfWord 19 = .ok (.bipush 122, 2) := by decide +kernel
theorem dX9_isOfWord_21 : decode cX9_isOfWord 21 = .ok (.if_icmp .gt 7, 3) := by decide +kernel
theorem dX9_isOfWord_24 : decode cX9_isOfWord 24 = .ok (.iconst 1, 1) := by decide +kernel
theorem dX9_isOfWord_25 : decode cX9_isOfWord 25 = .ok (.goto 4, 3) := by decide +kernel
theorem dX9_isOfWord_28 : decode cX9_isOfWord 28 = .ok (.iconst 0, 1) := by decide +kernel
theorem dX9_isOfWord_29 : decode cX9_isOfWord 29 = .ok (.ireturn, 1) := by decide +kernel
theorem dX10_init_0 : decode cX10_init 0 = .ok (.aload_n 0, 1) := by decide +kernel
theorem dX10_init_1 : decode cX10_init 1 = .ok (.invokespecial 5, 3) := by decide +kernel
theorem dX10_init_4 : decode cX10_init 4 = .ok (.aload_n 0, 1) := by decide +kernel
theorem dX10_init_5 : decode cX10_init 5 = .ok (.bipush 16, 2) := by decide +kernel
theorem dX10_init_7 : decode cX10_init 7 = .ok (.newarray .int, 2) := by decide +kernel
theorem dX10_init_9 : decode cX10_init 9 = .ok (.putfield 11, 3) := by decide +kernel
theorem dX10_init_12 : decode cX10_init 12 = .ok (.aload_n 0, 1) := by decide +kernel
theorem dX10_init_13 : decode cX10_init 13 = .ok (.new 15, 3) := by decide +kernel
theorem dX10_init_16 : decode cX10_init 16 = .ok (.dup, 1) := by decide +kernel
theorem dX10_init_17 : decode cX10_init 17 = .ok (.invokespecial 17, 3) := by decide +kernel
theorem dX10_init_20 : decode cX10_init 20 = .ok (.putfield 18, 3) := by decide +kernel
theorem dX10_init_23 : decode cX10_init 23 = .ok (.aload_n 0, 1) := by decide +kernel
theorem dX10_init_24 : decode cX10_init 24 = .ok (.bipush 6, 2) := by decide +kernel
theorem dX10_init_26 : decode cX10_init 26 = .ok (.newarray .int, 2) := by decide +kernel
theorem dX10_init_28 : decode cX10_init 28 = .ok (.putfield 22, 3) := by decide +kernel
theorem dX10_init_31 : decode cX10_init 31 = .ok (.aload_n 0, 1) := by decide +kernel
theorem dX10_init_32 : decode cX10_init 32 = .ok (.iconst 5, 1) := by decide +kernel
theorem dX10_init_33 : decode cX10_init 33 = .ok (.newarray .long, 2) := by decide +kernel
theorem dX10_init_35 : decode cX10_init 35 = .ok (.putfield 25, 3) := by decide +kernel
theorem dX10_init_38 : decode cX10_init 38 = .ok (.aload_n 0, 1) := by decide +kernel
theorem dX10_init_39 : decode cX10_init 39 = .ok (.bipush 8, 2) := by decide +kernel
theorem dX10_init_41 : decode cX10_init 41 = .ok (.newarray .int, 2) := by decide +kernel
theorem dX10_init_43 : decode cX10_init 43 = .ok (.putfield 29, 3) := by decide +kernel
theorem dX10_init_46 : decode cX10_init 46 = .ok (.aload_n 0, 1) := by decide +kernel
theorem dX10_init_47 : decode cX10_init 47 = .ok (.bipush 8, 2) := by decide +kernel
theorem dX10_init_49 : decode cX10_init 49 = .ok (.newarray .int, 2) := by decide +kernel
theorem dX10_init_51 : decode cX10_init 51 = .ok (.putfield 32, 3) := by decide +kernel
theorem dX10_init_54 : decode cX10_init 54 = .ok (.aload_n 0, 1) := by decide +kernel
theorem dX10_init_55 : decode cX10_init 55 = .ok (.bipush 8, 2) := by decide +kernel
theorem dX10_init_57 : decode cX10_init 57 = .ok (.newarray .int, 2) := by decide +kernel
theorem dX10_init_59 : decode cX10_init 59 = .ok (.putfield 35, 3) := by decide +kernel
theorem dX10_init_62 : decode cX10_init 62 = .ok (.aload_n 0, 1) := by decide +kernel
theorem dX10_init_63 : decode cX10_init 63 = .ok (.bipush 8, 2) := by decide +kernel
theorem dX10_init_65 : decode cX10_init 65 = .ok (.newarray .int, 2) := by decide +kernel
theorem dX10_init_67 : decode cX10_init 67 = .ok (.putfield 38, 3) := by decide +kernel
theorem dX10_init_70 : decode cX10_init 70 = .ok (.aload_n 0, 1) := by decide +kernel
theorem dX10_init_71 : decode cX10_init 71 = .ok (.sipush 320, 3) := by decide +kernel
theorem dX10_init_74 : decode cX10_init 74 = .ok (.newarray .int, 2) := by decide +kernel
theorem dX10_init_76 : decode cX10_init 76 = .ok (.putfield 41, 3) := by decide +kernel
theorem dX10_init_79 : decode cX10_init 79 = .ok (.aload_n 0, 1) := by decide +kernel
theorem dX10_init_80 : decode cX10_init 80 = .ok (.sipush 1280, 3) := by decide +kernel
theorem dX10_init_83 : decode cX10_init 83 = .ok (.newarray .int, 2) := by decide +kernel
theorem dX10_init_85 : decode cX10_init 85 = .ok (.putfield 44, 3) := by decide +kernel
theorem dX10_init_88 : decode cX10_init 88 = .ok (.aload_n 0, 1) := by decide +kernel
theorem dX10_init_89 : decode cX10_init 89 = .ok (.invokevirtual 47, 3) := by decide +kernel
theorem dX10_init_92 : decode cX10_init 92 = .ok (.return_, 1) := by decide +kernel
theorem dX10_clear_0 : decode cX10_clear 0 = .ok (.aload_n 0, 1) := by decide +kernel
theorem dX10_clear_1 : decode cX10_clear 1 = .ok (.iconst 0, 1) := by decide +kernel
theorem dX10_clear_2 : decode cX10_clear 2 = .ok (.putfield 50, 3) := by decide +kernel
theorem dX10_clear_5 : decode cX10_clear 5 = .ok (.aload_n 0, 1) := by decide +kernel
theorem dX10_clear_6 : decode cX10_clear 6 = .ok (.iconst 0, 1) := by decide +kernel
theorem dX10_clear_7 : decode cX10_clear 7 = .ok (.putfield 54, 3) := by decide +kernel
theorem dX10_clear_10 : decode cX10_clear 10 = .ok (.aload_n 0, 1) := by decide +kernel
theorem dX10_clear_11 : decode cX10_clear 11 = .ok (.iconst 0, 1) := by decide +kernel
theorem dX10_clear_12 : decode cX10_clear 12 = .ok (.putfield 57, 3) := by decide +kernel
theorem dX10_clear_15 : decode cX10_clear 15 = .ok (.aload_n 0, 1) := by decide +kernel
theorem dX10_clear_16 : decode cX10_clear 16 = .ok (.getfield 18, 3) := by decide +kernel
theorem dX10_clear_19 : decode cX10_clear 19 = .ok (.iconst 3, 1) := by decide +kernel
theorem dX10_clear_20 : decode cX10_clear 20 = .ok (.iconst 1, 1) := by decide +kernel
theorem dX10_clear_21 : decode cX10_clear 21 = .ok (.invokevirtual 60, 3) := by decide +kernel
theorem dX10_clear_24 : decode cX10_clear 24 = .ok (.aload_n 0, 1) := by decide +kernel
theorem dX10_clear_25 : decode cX10_clear 25 = .ok (.getfield 22, 3) := by decide +kernel
theorem dX10_clear_28 : decode cX10_clear 28 = .ok (.iconst 1, 1) := by decide +kernel
theorem dX10_clear_29 : decode cX10_clear 29 = .ok (.invokestatic 64, 3) := by decide +kernel
theorem dX10_clear_32 : decode cX10_clear 32 = .ok (.aload_n 0, 1) := by decide +kernel
theorem dX10_clear_33 : decode cX10_clear 33 = .ok (.getfield 25, 3) := by decide +kernel
theorem dX10_clear_36 : decode cX10_clear 36 = .ok (.lconst 0, 1) := by decide +kernel
theorem dX10_clear_37 : decode cX10_clear 37 = .ok (.invokestatic 70, 3) := by decide +kernel
theorem dX10_clear_40 : decode cX10_clear 40 = .ok (.aload_n 0, 1) := by decide +kernel
theorem dX10_clear_41 : decode cX10_clear 41 = .ok (.lconst 0, 1) := by decide +kernel
theorem dX10_clear_42 : decode cX10_clear 42 = .ok (.putfield 73, 3) := by decide +kernel
theorem dX10_clear_45 : decode cX10_clear 45 = .ok (.aload_n 0, 1) := by decide +kernel
theorem dX10_clear_46 : decode cX10_clear 46 = .ok (.iconst 0, 1) := by decide +kernel
theorem dX10_clear_47 : decode cX10_clear 47 = .ok (.putfield 77, 3) := by decide +kernel
theorem dX10_clear_50 : decode cX10_clear 50 = .ok (.aload_n 0, 1) := by decide +kernel
theorem dX10_clear_51 : decode cX10_clear 51 = .ok (.getfield 38, 3) := by decide +kernel
theorem dX10_clear_54 : decode cX10_clear 54 = .ok (.iconst 0, 1) := by decide +kernel
theorem dX10_clear_55 : decode cX10_clear 55 = .ok (.invokestatic 64, 3) := by decide +kernel
theorem dX10_clear_58 : decode cX10_clear 58 = .ok (.iconst 0, 1) := by decide +kernel
theorem dX10_clear_59 : decode cX10_clear 59 = .ok (.istore_n 1, 1) := by decide +kernel
theorem dX10_clear_60 : decode cX10_clear 60 = .ok (.iload_n 1, 1) := by decide +kernel
theorem dX10_clear_61 : decode cX10_clear 61 = .ok (.aload_n 0, 1) := by decide +kernel
theorem dX10_clear_62 : decode cX10_clear 62 = .ok (.getfield 41, 3) := by decide +kernel
theorem dX10_clear_65 : decode cX10_clear 65 = .ok (.arraylength, 1) := by decide +kernel
theorem dX10_clear_66 : decode cX10_clear 66 = .ok (.if_icmp .ge 19, 3) := by decide +kernel
theorem dX10_clear_69 : decode cX10_clear 69 = .ok (.aload_n 0, 1) := by decide +kernel
theorem dX10_clear_70 : decode cX10_clear 70 = .ok (.getfield 41, 3) := by decide +kernel
theorem dX10_clear_73 : decode cX10_clear 73 = .ok (.iload_n 1, 1) := by decide +kernel
theorem dX10_clear_74 : decode cX10_clear 74 = .ok (.iload_n 1, 1) := by decide +kernel
theorem dX10_clear_75 : decode cX10_clear 75 = .ok (.bipush 8, 2) := by decide +kernel
theorem dX10_clear_77 : decode cX10_clear 77 = .ok (.irem, 1) := by decide +kernel
theorem dX10_clear_78 : decode cX10_clear 78 = .ok (.iastore, 1) := by decide +kernel
theorem dX10_clear_79 : decode cX10_clear 79 = .ok (.iinc 1 1, 3) := by decide +kernel
theorem dX10_clear_82 : decode cX10_clear 82 = .ok (.goto (-22), 3) := by decide +kernel
theorem dX10_clear_85 : decode cX10_clear 85 = .ok (.return_, 1) := by decide +kernel
theorem dX10_copyFrom_0 : decode cX10_copyFrom 0 = .ok (.aload_n 0, 1) := by decide +kernel
theorem dX10_copyFrom_1 : decode cX10_copyFrom 1 = .ok (.aload_n 1, 1) := by decide +kernel
theorem dX10_copyFrom_2 : decode cX10_copyFrom 2 = .ok (.getfield 50, 3) := by decide +kernel
theorem dX10_copyFrom_5 : decode cX10_copyFrom 5 = .ok (.putfield 50, 3) := by decide +kernel
theorem dX10_copyFrom_8 : decode cX10_copyFrom 8 = .ok (.aload_n 0, 1) := by decide +kernel
theorem dX10_copyFrom_9 : decode cX10_copyFrom 9 = .ok (.aload_n 1, 1) := by decide +kernel
theorem dX10_copyFrom_10 : decode cX10_copyFrom 10 = .ok (.getfield 54, 3) := by decide +kernel
theorem dX10_copyFrom_13 : decode cX10_copyFrom 13 = .ok (.putfield 54, 3) := by decide +kernel
theorem dX10_copyFrom_16 : decode cX10_copyFrom 16 = .ok (.aload_n 0, 1) := by decide +kernel
theorem dX10_copyFrom_17 : decode cX10_copyFrom 17 = .ok (.aload_n 1, 1) := by decide +kernel
theorem dX10_copyFrom_18 : decode cX10_copyFrom 18 = .ok (.getfield 57, 3) := by decide +kernel
theorem dX10_copyFrom_21 : decode cX10_copyFrom 21 = .ok (.putfield 57, 3) := by decide +kernel
theorem dX10_copyFrom_24 : decode cX10_copyFrom 24 = .ok (.aload_n 1, 1) := by decide +kernel
theorem dX10_copyFrom_25 : decode cX10_copyFrom 25 = .ok (.getfield 11, 3) := by decide +kernel
theorem dX10_copyFrom_28 : decode cX10_copyFrom 28 = .ok (.iconst 0, 1) := by decide +kernel
theorem dX10_copyFrom_29 : decode cX10_copyFrom 29 = .ok (.aload_n 0, 1) := by decide +kernel
theorem dX10_copyFrom_30 : decode cX10_copyFrom 30 = .ok (.getfield 11, 3) := by decide +kernel
theorem dX10_copyFrom_33 : decode cX10_copyFrom 33 = .ok (.iconst 0, 1) := by decide +kernel
theorem dX10_copyFrom_34 : decode cX10_copyFrom 34 = .ok (.aload_n 0, 1) := by decide +kernel
theorem dX10_copyFrom_35 : decode cX10_copyFrom 35 = .ok (.getfield 11, 3) := by decide +kernel
theorem dX10_copyFrom_38 : decode cX10_copyFrom 38 = .ok (.arraylength, 1) := by decide +kernel
theorem dX10_copyFrom_39 : decode cX10_copyFrom 39 = .ok (.invokestatic 80, 3) := by decide +kernel
theorem dX10_copyFrom_42 : decode cX10_copyFrom 42 = .ok (.aload_n 0, 1) := by decide +kernel
theorem dX10_copyFrom_43 : decode cX10_copyFrom 43 = .ok (.getfield 18, 3) := by decide +kernel
theorem dX10_copyFrom_46 : decode cX10_copyFrom 46 = .ok (.aload_n 1, 1) := by decide +kernel
theorem dX10_copyFrom_47 : decode cX10_copyFrom 47 = .ok (.getfield 18, 3) := by decide +kernel
theorem dX10_copyFrom_50 : decode cX10_copyFrom 50 = .ok (.getfield 86, 3) := by decide +kernel
theorem dX10_copyFrom_53 : decode cX10_copyFrom 53 = .ok (.aload_n 1, 1) := by decide +kernel
theorem dX10_copyFrom_54 : decode cX10_copyFrom 54 = .ok (.getfield 18, 3) := by decide +kernel
theorem dX10_copyFrom_57 : decode cX10_copyFrom 57 = .ok (.getfield 89, 3) := by decide +kernel
theorem dX10_copyFrom_60 : decode cX10_copyFrom 60 = .ok (.invokevirtual 60, 3) := by decide +kernel
theorem dX10_copyFrom_63 : decode cX10_copyFrom 63 = .ok (.aload_n 1, 1) := by decide +kernel
theorem dX10_copyFrom_64 : decode cX10_copyFrom 64 = .ok (.getfield 22, 3) := by decide +kernel
theorem dX10_copyFrom_67 : decode cX10_copyFrom 67 = .ok (.iconst 0, 1) := by decide +kernel
theorem dX10_copyFrom_68 : decode cX10_copyFrom 68 = .ok (.aload_n 0, 1) := by decide +kernel
theorem dX10_copyFrom_69 : decode cX10_copyFrom 69 = .ok (.getfield 22, 3) := by decide +kernel
theorem dX10_copyFrom_72 : decode cX10_copyFrom 72 = .ok (.iconst 0, 1) := by decide +kernel
theorem dX10_copyFrom_73 : decode cX10_copyFrom 73 = .ok (.aload_n 0, 1) := by decide +kernel
theorem dX10_copyFrom_74 : decode cX10_copyFrom 74 = .ok (.getfield 22, 3) := by decide +kernel
theorem dX10_copyFrom_77 : decode cX10_copyFrom 77 = .ok (.arraylength, 1) := by decide +kernel
theorem dX10_copyFrom_78 : decode cX10_copyFrom 78 = .ok (.invokestatic 80, 3) := by decide +kernel
theorem dX10_copyFrom_81 : decode cX10_copyFrom 81 = .ok (.aload_n 1, 1) := by decide +kernel
theorem dX10_copyFrom_82 : decode cX10_copyFrom 82 = .ok (.getfield 25, 3) := by decide +kernel
theorem dX10_copyFrom_85 : decode cX10_copyFrom 85 = .ok (.iconst 0, 1) := by decide +kernel
theorem dX10_copyFrom_86 : decode cX10_copyFrom 86 = .ok (.aload_n 0, 1) := by decide +kernel
theorem dX10_copyFrom_87 : decode cX10_copyFrom 87 = .ok (.getfield 25, 3) := by decide +kernel
theorem dX10_copyFrom_90 : decode cX10_copyFrom 90 = .ok (.iconst 0, 1) := by decide +kernel
theorem dX10_copyFrom_91 : decode cX10_copyFrom 91 = .ok (.aload_n 0, 1) := by decide +kernel
theorem dX10_copyFrom_92 : decode cX10_copyFrom 92 = .ok (.getfield 25, 3) := by decide +kernel
theorem dX10_copyFrom_95 : decode cX10_copyFrom 95 = .ok (.arraylength, 1) := by decide +kernel
theorem dX10_copyFrom_96 : decode cX10_copyFrom 96 = .ok (.invokestatic 80, 3) := by decide +kernel
theorem dX10_copyFrom_99 : decode cX10_copyFrom 99 = .ok (.aload_n 0, 1) := by decide +kernel
theorem dX10_copyFrom_100 : decode cX10_copyFrom 100 = .ok (.aload_n 1, 1) := by decide +kernel
theorem dX10_copyFrom_101 : decode cX10_copyFrom 101 = .ok (.getfield 73, 3) := by decide +kernel
theorem dX10_copyFrom_104 : decode cX10_copyFrom 104 = .ok (.putfield 73, 3) := by decide +kernel
theorem dX10_copyFrom_107 : decode cX10_copyFrom 107 = .ok (.aload_n 1, 1) := by decide +kernel
theorem dX10_copyFrom_108 : decode cX10_copyFrom 108 = .ok (.getfield 29, 3) := by decide +kernel
theorem dX10_copyFrom_111 : decode cX10_copyFrom 111 = .ok (.iconst 0, 1) := by decide +kernel
theorem dX10_copyFrom_112 : decode cX10_copyFrom 112 = .ok (.aload_n 0, 1) := by decide +kernel
theorem dX10_copyFrom_113 : decode cX10_copyFrom 113 = .ok (.getfield 29, 3) := by decide +kernel
theorem dX10_copyFrom_116 : decode cX10_copyFrom 116 = .ok (.iconst 0, 1) := by decide +kernel
theorem dX10_copyFrom_117 : decode cX10_copyFrom 117 = .ok (.aload_n 0, 1) := by decide +kernel
theorem dX10_copyFrom_118 : decode cX10_copyFrom 118 = .ok (.getfield 29, 3) := by decide +kernel
theorem dX10_copyFrom_121 : decode cX10_copyFrom 121 = .ok (.arraylength, 1) := by decide +kernel
theorem dX10_copyFrom_122 : decode cX10_copyFrom 122 = .ok (.invokestatic 80, 3) := by decide +kernel
theorem dX10_copyFrom_125 : decode cX10_copyFrom 125 = .ok (.aload_n 1, 1) := by decide +kernel
theorem dX10_copyFrom_126 : decode cX10_copyFrom 126 = .ok (.getfield 32, 3) := by decide +kernel
theorem dX10_copyFrom_129 : decode cX10_copyFrom 129 = .ok (.iconst 0, 1) := by decide +kernel
theorem dX10_copyFrom_130 : decode cX10_copyFrom 130 = .ok (.aload_n 0, 1) := by decide +kernel
theorem dX10_copyFrom_131 : decode cX10_copyFrom 131 = .ok (.getfield 32, 3) := by decide +kernel
theorem dX10_copyFrom_134 : decode cX10_copyFrom 134 = .ok (.iconst 0, 1) := by decide +kernel
theorem dX10_copyFrom_135 : decode cX10_copyFrom 135 = .ok (.aload_n 0, 1) := by decide +kernel
theorem dX10_copyFrom_136 : decode cX10_copyFrom 136 = .ok (.getfield 32, 3) := by decide +kernel
theorem dX10_copyFrom_139 : decode cX10_copyFrom 139 = .ok (.arraylength, 1) := by decide +kernel
theorem dX10_copyFrom_140 : decode cX10_copyFrom 140 = .ok (.invokestatic 80, 3) := by decide +kernel
theorem dX10_copyFrom_143 : decode cX10_copyFrom 143 = .ok (.aload_n 1, 1) := by decide +kernel
theorem dX10_copyFrom_144 : decode cX10_copyFrom 144 = .ok (.getfield 35, 3) := by decide +kernel
theorem dX10_copyFrom_147 : decode cX10_copyFrom 147 = .ok (.iconst 0, 1) := by decide +kernel
theorem dX10_copyFrom_148 : decode cX10_copyFrom 148 = .ok (.aload_n 0, 1) := by decide +kernel
theorem dX10_copyFrom_149 : decode cX10_copyFrom 149 = .ok (.getfield 35, 3) := by decide +kernel
theorem dX10_copyFrom_152 : decode cX10_copyFrom 152 = .ok (.iconst 0, 1) := by decide +kernel
theorem dX10_copyFrom_153 : decode cX10_copyFrom 153 = .ok (.aload_n 0, 1) := by decide +kernel
theorem dX10_copyFrom_154 : decode cX10_copyFrom 154 = .ok (.getfield 35, 3) := by decide +kernel
theorem dX10_copyFrom_157 : decode cX10_copyFrom 157 = .ok (.arraylength, 1) := by decide +kernel
theorem dX10_copyFrom_158 : decode cX10_copyFrom 158 = .ok (.invokestatic 80, 3) := by decide +kernel
theorem dX10_copyFrom_161 : decode cX10_copyFrom 161 = .ok (.aload_n 0, 1) := by decide +kernel
theorem dX10_copyFrom_162 : decode cX10_copyFrom 162 = .ok (.aload_n 1, 1) := by decide +kernel
theorem dX10_copyFrom_163 : decode cX10_copyFrom 163 = .ok (.getfield 77, 3) := by decide +kernel
theorem dX10_copyFrom_166 : decode cX10_copyFrom 166 = .ok (.putfield 77, 3) := by decide +kernel
theorem dX10_copyFrom_169 : decode cX10_copyFrom 169 = .ok (.aload_n 1, 1) := by decide +kernel
theorem dX10_copyFrom_170 : decode cX10_copyFrom 170 = .ok (.getfield 38, 3) := by decide +kernel
theorem dX10_copyFrom_173 : decode cX10_copyFrom 173 = .ok (.iconst 0, 1) := by decide +kernel
theorem dX10_copyFrom_174 : decode cX10_copyFrom 174 = .ok (.aload_n 0, 1) := by decide +kernel
theorem dX10_copyFrom_175 : decode cX10_copyFrom 175 = .ok (.getfield 38, 3) := by decide +kernel
theorem dX10_copyFrom_178 : decode cX10_copyFrom 178 = .ok (.iconst 0, 1) := by decide +kernel
theorem dX10_copyFrom_179 : decode cX10_copyFrom 179 = .ok (.aload_n 0, 1) := by decide +kernel
theorem dX10_copyFrom_180 : decode cX10_copyFrom 180 = .ok (.getfield 38, 3) := by decide +kernel
theorem dX10_copyFrom_183 : decode cX10_copyFrom 183 = .ok (.arraylength, 1) := by decide +kernel
theorem dX10_copyFrom_184 : decode cX10_copyFrom 184 = .ok (.invokestatic 80, 3) := by decide +kernel
theorem dX10_copyFrom_187 : decode cX10_copyFrom 187 = .ok (.aload_n 1, 1) := by decide +kernel
theorem dX10_copyFrom_188 : decode cX10_copyFrom 188 = .ok (.getfield 41, 3) := by decide +kernel
theorem dX10_copyFrom_191 : decode cX10_copyFrom 191 = .ok (.iconst 0, 1) := by decide +kernel
theorem dX10_copyFrom_192 : decode cX10_copyFrom 192 = .ok (.aload_n 0, 1) := by decide +kernel
theorem dX10_copyFrom_193 : decode cX10_copyFrom 193 = .ok (.getfield 41, 3) := by decide +kernel
theorem dX10_copyFrom_196 : decode cX10_copyFrom 196 = .ok (.iconst 0, 1) := by decide +kernel
theorem dX10_copyFrom_197 : decode cX10_copyFrom 197 = .ok (.aload_n 0, 1) := by decide +kernel
theorem dX10_copyFrom_198 : decode cX10_copyFrom 198 = .ok (.getfield 41, 3) := by decide +kernel
theorem dX10_copyFrom_201 : decode cX10_copyFrom 201 = .ok (.arraylength, 1) := by decide +kernel
theorem dX10_copyFrom_202 : decode cX10_copyFrom 202 = .ok (.invokestatic 80, 3) := by decide +kernel
theorem dX10_copyFrom_205 : decode cX10_copyFrom 205 = .ok (.aload_n 1, 1) := by decide +kernel
theorem dX10_copyFrom_206 : decode cX10_copyFrom 206 = .ok (.getfield 44, 3) := by decide +kernel
theorem dX10_copyFrom_209 : decode cX10_copyFrom 209 = .ok (.iconst 0, 1) := by decide +kernel
theorem dX10_copyFrom_210 : decode cX10_copyFrom 210 = .ok (.aload_n 0, 1) := by decide +kernel
theorem dX10_copyFrom_211 : decode cX10_copyFrom 211 = .ok (.getfield 44, 3) := by decide +kernel
theorem dX10_copyFrom_214 : decode cX10_copyFrom 214 = .ok (.iconst 0, 1) := by decide +kernel
theorem dX10_copyFrom_215 : decode cX10_copyFrom 215 = .ok (.aload_n 0, 1) := by decide +kernel
theorem dX10_copyFrom_216 : decode cX10_copyFrom 216 = .ok (.getfield 44, 3) := by decide +kernel
theorem dX10_copyFrom_219 : decode cX10_copyFrom 219 = .ok (.arraylength, 1) := by decide +kernel
theorem dX10_copyFrom_220 : decode cX10_copyFrom 220 = .ok (.invokestatic 80, 3) := by decide +kernel
theorem dX10_copyFrom_223 : decode cX10_copyFrom 223 = .ok (.return_, 1) := by decide +kernel
theorem dX10_hasSaying_0 : decode cX10_hasSaying 0 = .ok (.iload_n 1, 1) := by decide +kernel
theorem dX10_hasSaying_1 : decode cX10_hasSaying 1 = .ok (.ifCond .lt 15, 3) := by decide +kernel
theorem dX10_hasSaying_4 : decode cX10_hasSaying 4 = .ok (.iload_n 1, 1) := by decide +kernel
theorem dX10_hasSaying_5 : decode cX10_hasSaying 5 = .ok (.aload_n 0, 1) := by decide +kernel
theorem dX10_hasSaying_6 : decode cX10_hasSaying 6 = .ok (.getfield 57, 3) := by decide +kernel
theorem dX10_hasSaying_9 : decode cX10_hasSaying 9 = .ok (.if_icmp .ge 7, 3) := by decide +kernel
theorem dX10_hasSaying_12 : decode cX10_hasSaying 12 = .ok (.iconst 1, 1) := by decide +kernel
theorem dX10_hasSaying_13 : decode cX10_hasSaying 13 = .ok (.goto 4, 3) := by decide +kernel
theorem dX10_hasSaying_16 : decode cX10_hasSaying 16 = .ok (.iconst 0, 1) := by decide +kernel
theorem dX10_hasSaying_17 : decode cX10_hasSaying 17 = .ok (.ireturn, 1) := by decide +kernel
theorem dX10_hasSort_0 : decode cX10_hasSort 0 = .ok (.iload_n 1, 1) := by decide +kernel
theorem dX10_hasSort_1 : decode cX10_hasSort 1 = .ok (.ifCond .lt 15, 3) := by decide +kernel
theorem dX10_hasSort_4 : decode cX10_hasSort 4 = .ok (.iload_n 1, 1) := by decide +kernel
theorem dX10_hasSort_5 : decode cX10_hasSort 5 = .ok (.aload_n 0, 1) := by decide +kernel
theorem dX10_hasSort_6 : decode cX10_hasSort 6 = .ok (.getfield 50, 3) := by decide +kernel
theorem dX10_hasSort_9 : decode cX10_hasSort 9 = .ok (.if_icmp .ge 7, 3) := by decide +kernel
theorem dX10_hasSort_12 : decode cX10_hasSort 12 = .ok (.iconst 1, 1) := by decide +kernel
theorem dX10_hasSort_13 : decode cX10_hasSort 13 = .ok (.goto 4, 3) := by decide +kernel
theorem dX10_hasSort_16 : decode cX10_hasSort 16 = .ok (.iconst 0, 1) := by decide +kernel
theorem dX10_hasSort_17 : decode cX10_hasSort 17 = .ok (.ireturn, 1) := by decide +kernel
theorem dX10_readsAs_0 : decode cX10_readsAs 0 = .ok (.aload_n 0, 1) := by decide +kernel
theorem dX10_readsAs_1 : decode cX10_readsAs 1 = .ok (.getfield 38, 3) := by decide +kernel
theorem dX10_readsAs_4 : decode cX10_readsAs 4 = .ok (.iload_n 1, 1) := by decide +kernel
theorem dX10_readsAs_5 : decode cX10_readsAs 5 = .ok (.iaload, 1) := by decide +kernel
theorem dX10_readsAs_6 : decode cX10_readsAs 6 = .ok (.iload_n 2, 1) := by decide +kernel
theorem dX10_readsAs_7 : decode cX10_readsAs 7 = .ok (.ishr, 1) := by decide +kernel
theorem dX10_readsAs_8 : decode cX10_readsAs 8 = .ok (.iconst 1, 1) := by decide +kernel
theorem dX10_readsAs_9 : decode cX10_readsAs 9 = .ok (.iand, 1) := by decide +kernel
theorem dX10_readsAs_10 : decode cX10_readsAs 10 = .ok (.ifCond .eq 7, 3) := by decide +kernel
theorem dX10_readsAs_13 : decode cX10_readsAs 13 = .ok (.iconst 1, 1) := by decide +kernel
theorem dX10_readsAs_14 : decode cX10_readsAs 14 = .ok (.goto 4, 3) := by decide +kernel
theorem dX10_readsAs_17 : decode cX10_readsAs 17 = .ok (.iconst 0, 1) := by decide +kernel
theorem dX10_readsAs_18 : decode cX10_readsAs 18 = .ok (.ireturn, 1) := by decide +kernel
theorem dX10_turnReads_0 : decode cX10_turnReads 0 = .ok (.aload_n 0, 1) := by decide +kernel
theorem dX10_turnReads_1 : decode cX10_turnReads 1 = .ok (.getfield 38, 3) := by decide +kernel
theorem dX10_turnReads_4 : decode cX10_turnReads 4 = .ok (.iload_n 1, 1) := by decide +kernel
theorem dX10_turnReads_5 : decode cX10_turnReads 5 = .ok (.dup2, 1) := by decide +kernel
theorem dX10_turnReads_6 : decode cX10_turnReads 6 = .ok (.iaload, 1) := by decide +kernel
theorem dX10_turnReads_7 : decode cX10_turnReads 7 = .ok (.iconst 1, 1) := by decide +kernel
theorem dX10_turnReads_8 : decode cX10_turnReads 8 = .ok (.iload_n 2, 1) := by decide +kernel
theorem dX10_turnReads_9 : decode cX10_turnReads 9 = .ok (.ishl, 1) := by decide +kernel
theorem dX10_turnReads_10 : decode cX10_turnReads 10 = .ok (.ixor, 1) := by decide +kernel
theorem dX10_turnReads_11 : decode cX10_turnReads 11 = .ok (.iastore, 1) := by decide +kernel
theorem dX10_turnReads_12 : decode cX10_turnReads 12 = .ok (.return_, 1) := by decide +kernel
theorem dX10_mayFollow_0 : decode cX10_mayFollow 0 = .ok (.aload_n 0, 1) := by decide +kernel
theorem dX10_mayFollow_1 : decode cX10_mayFollow 1 = .ok (.getfield 25, 3) := by decide +kernel
theorem dX10_mayFollow_4 : decode cX10_mayFollow 4 = .ok (.iload_n 2, 1) := by decide +kernel
theorem dX10_mayFollow_5 : decode cX10_mayFollow 5 = .ok (.laload, 1) := by decide +kernel
theorem dX10_mayFollow_6 : decode cX10_mayFollow 6 = .ok (.bipush 8, 2) := by decide +kernel
theorem dX10_mayFollow_8 : decode cX10_mayFollow 8 = .ok (.iload_n 1, 1) := by decide +kernel
theorem dX10_mayFollow_9 : decode cX10_mayFollow 9 = .ok (.imul, 1) := by decide +kernel
theorem dX10_mayFollow_10 : decode cX10_mayFollow 10 = .ok (.lushr, 1) := by decide +kernel
theorem dX10_mayFollow_11 : decode cX10_mayFollow 11 = .ok (.lconst 1, 1) := by decide +kernel
theorem dX10_mayFollow_12 : decode cX10_mayFollow 12 = .ok (.land, 1) := by decide +kernel
theorem dX10_mayFollow_13 : decode cX10_mayFollow 13 = .ok (.lconst 0, 1) := by decide +kernel
theorem dX10_mayFollow_14 : decode cX10_mayFollow 14 = .ok (.lcmp, 1) := by decide +kernel
theorem dX10_mayFollow_15 : decode cX10_mayFollow 15 = .ok (.ifCond .eq 7, 3) := by decide +kernel
theorem dX10_mayFollow_18 : decode cX10_mayFollow 18 = .ok (.iconst 1, 1) := by decide +kernel
theorem dX10_mayFollow_19 : decode cX10_mayFollow 19 = .ok (.goto 4, 3) := by decide +kernel
theorem dX10_mayFollow_22 : decode cX10_mayFollow 22 = .ok (.iconst 0, 1) := by decide +kernel
theorem dX10_mayFollow_23 : decode cX10_mayFollow 23 = .ok (.ireturn, 1) := by decide +kernel
theorem dX10_turnFollow_0 : decode cX10_turnFollow 0 = .ok (.aload_n 0, 1) := by decide +kernel
theorem dX10_turnFollow_1 : decode cX10_turnFollow 1 = .ok (.getfield 25, 3) := by decide +kernel
theorem dX10_turnFollow_4 : decode cX10_turnFollow 4 = .ok (.iload_n 2, 1) := by decide +kernel
theorem dX10_turnFollow_5 : decode cX10_turnFollow 5 = .ok (.dup2, 1) := by decide +kernel
theorem dX10_turnFollow_6 : decode cX10_turnFollow 6 = .ok (.laload, 1) := by decide +kernel
theorem dX10_turnFollow_7 : decode cX10_turnFollow 7 = .ok (.ldc2_w 92, 3) := by decide +kernel
theorem dX10_turnFollow_10 : decode cX10_turnFollow 10 = .ok (.bipush 8, 2) := by decide +kernel
theorem dX10_turnFollow_12 : decode cX10_turnFollow 12 = .ok (.iload_n 1, 1) := by decide +kernel
theorem dX10_turnFollow_13 : decode cX10_turnFollow 13 = .ok (.imul, 1) := by decide +kernel
theorem dX10_turnFollow_14 : decode cX10_turnFollow 14 = .ok (.lshl, 1) := by decide +kernel
theorem dX10_turnFollow_15 : decode cX10_turnFollow 15 = .ok (.lxor, 1) := by decide +kernel
theorem dX10_turnFollow_16 : decode cX10_turnFollow 16 = .ok (.lastore, 1) := by decide +kernel
theorem dX10_turnFollow_17 : decode cX10_turnFollow 17 = .ok (.return_, 1) := by decide +kernel
theorem dX10_isTold_0 : decode cX10_isTold 0 = .ok (.iload_n 1, 1) := by decide +kernel
theorem dX10_isTold_1 : decode cX10_isTold 1 = .ok (.ifCond .eq 12, 3) := by decide +kernel
theorem dX10_isTold_4 : decode cX10_isTold 4 = .ok (.aload_n 0, 1) := by decide +kernel
theorem dX10_isTold_5 : decode cX10_isTold 5 = .ok (.iload_n 2, 1) := by decide +kernel
theorem dX10_isTold_6 : decode cX10_isTold 6 = .ok (.iload_n 3, 1) := by decide +kernel
theorem dX10_isTold_7 : decode cX10_isTold 7 = .ok (.invokevirtual 94, 3) := by decide +kernel
theorem dX10_isTold_10 : decode cX10_isTold 10 = .ok (.goto 9, 3) := by decide +kernel
theorem dX10_isTold_13 : decode cX10_isTold 13 = .ok (.aload_n 0, 1) := by decide +kernel
theorem dX10_isTold_14 : decode cX10_isTold 14 = .ok (.iload_n 2, 1) := by decide +kernel
theorem dX10_isTold_15 : decode cX10_isTold 15 = .ok (.iload_n 3, 1) := by decide +kernel
theorem dX10_isTold_16 : decode cX10_isTold 16 = .ok (.invokevirtual 98, 3) := by decide +kernel
theorem dX10_isTold_19 : decode cX10_isTold 19 = .ok (.ireturn, 1) := by decide +kernel
theorem dX10_turnTold_0 : decode cX10_turnTold 0 = .ok (.iload_n 1, 1) := by decide +kernel
theorem dX10_turnTold_1 : decode cX10_turnTold 1 = .ok (.ifCond .eq 12, 3) := by decide +kernel
theorem dX10_turnTold_4 : decode cX10_turnTold 4 = .ok (.aload_n 0, 1) := by decide +kernel
theorem dX10_turnTold_5 : decode cX10_turnTold 5 = .ok (.iload_n 2, 1) := by decide +kernel
theorem dX10_turnTold_6 : decode cX10_turnTold 6 = .ok (.iload_n 3, 1) := by decide +kernel
theorem dX10_turnTold_7 : decode cX10_turnTold 7 = .ok (.invokevirtual 101, 3) := by decide +kernel
theorem dX10_turnTold_10 : decode cX10_turnTold 10 = .ok (.goto 9, 3) := by decide +kernel
theorem dX10_turnTold_13 : decode cX10_turnTold 13 = .ok (.aload_n 0, 1) := by decide +kernel
theorem dX10_turnTold_14 : decode cX10_turnTold 14 = .ok (.iload_n 2, 1) := by decide +kernel
theorem dX10_turnTold_15 : decode cX10_turnTold 15 = .ok (.iload_n 3, 1) := by decide +kernel
theorem dX10_turnTold_16 : decode cX10_turnTold 16 = .ok (.invokevirtual 104, 3) := by decide +kernel
theorem dX10_turnTold_19 : decode cX10_turnTold 19 = .ok (.return_, 1) := by decide +kernel
theorem dX10_mayEnd_0 : decode cX10_mayEnd 0 = .ok (.aload_n 0, 1) := by decide +kernel
theorem dX10_mayEnd_1 : decode cX10_mayEnd 1 = .ok (.getfield 73, 3) := by decide +kernel
theorem dX10_mayEnd_4 : decode cX10_mayEnd 4 = .ok (.bipush 8, 2) := by decide +kernel
theorem dX10_mayEnd_6 : decode cX10_mayEnd 6 = .ok (.iload_n 1, 1) := by decide +kernel
theorem dX10_mayEnd_7 : decode cX10_mayEnd 7 = .ok (.imul, 1) := by decide +kernel
theorem dX10_mayEnd_8 : decode cX10_mayEnd 8 = .ok (.lushr, 1) := by decide +kernel
theorem dX10_mayEnd_9 : decode cX10_mayEnd 9 = .ok (.lconst 1, 1) := by decide +kernel
theorem dX10_mayEnd_10 : decode cX10_mayEnd 10 = .ok (.land, 1) := by decide +kernel
theorem dX10_mayEnd_11 : decode cX10_mayEnd 11 = .ok (.lconst 0, 1) := by decide +kernel
theorem dX10_mayEnd_12 : decode cX10_mayEnd 12 = .ok (.lcmp, 1) := by decide +kernel
theorem dX10_mayEnd_13 : decode cX10_mayEnd 13 = .ok (.ifCond .eq 7, 3) := by decide +kernel
theorem dX10_mayEnd_16 : decode cX10_mayEnd 16 = .ok (.iconst 1, 1) := by decide +kernel
theorem dX10_mayEnd_17 : decode cX10_mayEnd 17 = .ok (.goto 4, 3) := by decide +kernel
theorem dX10_mayEnd_20 : decode cX10_mayEnd 20 = .ok (.iconst 0, 1) := by decide +kernel
theorem dX10_mayEnd_21 : decode cX10_mayEnd 21 = .ok (.ireturn, 1) := by decide +kernel
theorem dX10_made_0 : decode cX10_made 0 = .ok (.aload_n 0, 1) := by decide +kernel
theorem dX10_made_1 : decode cX10_made 1 = .ok (.getfield 41, 3) := by decide +kernel
theorem dX10_made_4 : decode cX10_made 4 = .ok (.iload_n 1, 1) := by decide +kernel
theorem dX10_made_5 : decode cX10_made 5 = .ok (.iconst 5, 1) := by decide +kernel
theorem dX10_made_6 : decode cX10_made 6 = .ok (.imul, 1) := by decide +kernel
theorem dX10_made_7 : decode cX10_made 7 = .ok (.iload_n 2, 1) := by decide +kernel
theorem dX10_made_8 : decode cX10_made 8 = .ok (.iadd, 1) := by decide +kernel
theorem dX10_made_9 : decode cX10_made 9 = .ok (.bipush 8, 2) := by decide +kernel
theorem dX10_made_11 : decode cX10_made 11 = .ok (.imul, 1) := by decide +kernel
theorem dX10_made_12 : decode cX10_made 12 = .ok (.iload_n 3, 1) := by decide +kernel
theorem dX10_made_13 : decode cX10_made 13 = .ok (.iadd, 1) := by decide +kernel
theorem dX10_made_14 : decode cX10_made 14 = .ok (.iaload, 1) := by decide +kernel
theorem dX10_made_15 : decode cX10_made 15 = .ok (.ireturn, 1) := by decide +kernel
theorem dX10_change_0 : decode cX10_change 0 = .ok (.iload_n 1, 1) := by decide +kernel
theorem dX10_change_1 : decode cX10_change 1 = .ok (.iconst 5, 1) := by decide +kernel
theorem dX10_change_2 : decode cX10_change 2 = .ok (.imul, 1) := by decide +kernel
theorem dX10_change_3 : decode cX10_change 3 = .ok (.iload_n 2, 1) := by decide +kernel
theorem dX10_change_4 : decode cX10_change 4 = .ok (.iadd, 1) := by decide +kernel
theorem dX10_change_5 : decode cX10_change 5 = .ok (.bipush 8, 2) := by decide +kernel
theorem dX10_change_7 : decode cX10_change 7 = .ok (.imul, 1) := by decide +kernel
theorem dX10_change_8 : decode cX10_change 8 = .ok (.istore 5, 2) := by decide +kernel
theorem dX10_change_10 : decode cX10_change 10 = .ok (.iload 5, 2) := by decide +kernel
theorem dX10_change_12 : decode cX10_change 12 = .ok (.istore 6, 2) := by decide +kernel
theorem dX10_change_14 : decode cX10_change 14 = .ok (.iload 6, 2) := by decide +kernel
theorem dX10_change_16 : decode cX10_change 16 = .ok (.iload 5, 2) := by decide +kernel
theorem dX10_change_18 : decode cX10_change 18 = .ok (.bipush 8, 2) := by decide +kernel
theorem dX10_change_20 : decode cX10_change 20 = .ok (.iadd, 1) := by decide +kernel
theorem dX10_change_21 : decode cX10_change 21 = .ok (.if_icmp .ge 28, 3) := by decide +kernel
theorem dX10_change_24 : decode cX10_change 24 = .ok (.aload_n 0, 1) := by decide +kernel
theorem dX10_change_25 : decode cX10_change 25 = .ok (.getfield 41, 3) := by decide +kernel
theorem dX10_change_28 : decode cX10_change 28 = .ok (.iload 6, 2) := by decide +kernel
theorem dX10_change_30 : decode cX10_change 30 = .ok (.aload_n 0, 1) := by decide +kernel
theorem dX10_change_31 : decode cX10_change 31 = .ok (.getfield 41, 3) := by decide +kernel
theorem dX10_change_34 : decode cX10_change 34 = .ok (.iload 6, 2) := by decide +kernel
theorem dX10_change_36 : decode cX10_change 36 = .ok (.iaload, 1) := by decide +kernel
theorem dX10_change_37 : decode cX10_change 37 = .ok (.iload_n 3, 1) := by decide +kernel
theorem dX10_change_38 : decode cX10_change 38 = .ok (.iand, 1) := by decide +kernel
theorem dX10_change_39 : decode cX10_change 39 = .ok (.iload 4, 2) := by decide +kernel
theorem dX10_change_41 : decode cX10_change 41 = .ok (.ixor, 1) := by decide +kernel
theorem dX10_change_42 : decode cX10_change 42 = .ok (.iastore, 1) := by decide +kernel
theorem dX10_change_43 : decode cX10_change 43 = .ok (.iinc 6 1, 3) := by decide +kernel
theorem dX10_change_46 : decode cX10_change 46 = .ok (.goto (-32), 3) := by decide +kernel
theorem dX10_change_49 : decode cX10_change 49 = .ok (.return_, 1) := by decide +kernel
theorem dX10_settle_0 : decode cX10_settle 0 = .ok (.iconst 0, 1) := by decide +kernel
theorem dX10_settle_1 : decode cX10_settle 1 = .ok (.istore_n 1, 1) := by decide +kernel
theorem dX10_settle_2 : decode cX10_settle 2 = .ok (.iload_n 1, 1) := by decide +kernel
theorem dX10_settle_3 : decode cX10_settle 3 = .ok (.bipush 40, 2) := by decide +kernel
theorem dX10_settle_5 : decode cX10_settle 5 = .ok (.if_icmp .ge 52, 3) := by decide +kernel
theorem dX10_settle_8 : decode cX10_settle 8 = .ok (.iconst 0, 1) := by decide +kernel
theorem dX10_settle_9 : decode cX10_settle 9 = .ok (.istore_n 2, 1) := by decide +kernel
theorem dX10_settle_10 : decode cX10_settle 10 = .ok (.iload_n 2, 1) := by decide +kernel
theorem dX10_settle_11 : decode cX10_settle 11 = .ok (.bipush 32, 2) := by decide +kernel
theorem dX10_settle_13 : decode cX10_settle 13 = .ok (.if_icmp .ge 38, 3) := by decide +kernel
theorem dX10_settle_16 : decode cX10_settle 16 = .ok (.aload_n 0, 1) := by decide +kernel
theorem dX10_settle_17 : decode cX10_settle 17 = .ok (.getfield 44, 3) := by decide +kernel
theorem dX10_settle_20 : decode cX10_settle 20 = .ok (.iload_n 1, 1) := by decide +kernel
theorem dX10_settle_21 : decode cX10_settle 21 = .ok (.bipush 32, 2) := by decide +kernel
theorem dX10_settle_23 : decode cX10_settle 23 = .ok (.imul, 1) := by decide +kernel
theorem dX10_settle_24 : decode cX10_settle 24 = .ok (.iload_n 2, 1) := by decide +kernel
theorem dX10_settle_25 : decode cX10_settle 25 = .ok (.iadd, 1) := by decide +kernel
theorem dX10_settle_26 : decode cX10_settle 26 = .ok (.aload_n 0, 1) := by decide +kernel
theorem dX10_settle_27 : decode cX10_settle 27 = .ok (.iload_n 1, 1) := by decide +kernel
theorem dX10_settle_28 : decode cX10_settle 28 = .ok (.bipush 8, 2) := by decide +kernel
theorem dX10_settle_30 : decode cX10_settle 30 = .ok (.imul, 1) := by decide +kernel
theorem dX10_settle_31 : decode cX10_settle 31 = .ok (.iload_n 2, 1) := by decide +kernel
theorem dX10_settle_32 : decode cX10_settle 32 = .ok (.iconst 4, 1) := by decide +kernel
theorem dX10_settle_33 : decode cX10_settle 33 = .ok (.ishr, 1) := by decide +kernel
theorem dX10_settle_34 : decode cX10_settle 34 = .ok (.iconst 4, 1) := by decide +kernel
theorem dX10_settle_35 : decode cX10_settle 35 = .ok (.imul, 1) := by decide +kernel
theorem dX10_settle_36 : decode cX10_settle 36 = .ok (.iadd, 1) := by decide +kernel
theorem dX10_settle_37 : decode cX10_settle 37 = .ok (.iload_n 2, 1) := by decide +kernel
theorem dX10_settle_38 : decode cX10_settle 38 = .ok (.bipush 15, 2) := by decide +kernel
theorem dX10_settle_40 : decode cX10_settle 40 = .ok (.iand, 1) := by decide +kernel
theorem dX10_settle_41 : decode cX10_settle 41 = .ok (.invokevirtual 107, 3) := by decide +kernel
theorem dX10_settle_44 : decode cX10_settle 44 = .ok (.iastore, 1) := by decide +kernel
theorem dX10_settle_45 : decode cX10_settle 45 = .ok (.iinc 2 1, 3) := by decide +kernel
theorem dX10_settle_48 : decode cX10_settle 48 = .ok (.goto (-38), 3) := by decide +kernel
theorem dX10_settle_51 : decode cX10_settle 51 = .ok (.iinc 1 1, 3) := by decide +kernel
theorem dX10_settle_54 : decode cX10_settle 54 = .ok (.goto (-52), 3) := by decide +kernel
theorem dX10_settle_57 : decode cX10_settle 57 = .ok (.return_, 1) := by decide +kernel
theorem dX10_madeOfFour_0 : decode cX10_madeOfFour 0 = .ok (.iconst 0, 1) := by decide +kernel
theorem dX10_madeOfFour_1 : decode cX10_madeOfFour 1 = .ok (.istore_n 3, 1) := by decide +kernel
theorem dX10_madeOfFour_2 : decode cX10_madeOfFour 2 = .ok (.iconst 0, 1) := by decide +kernel
theorem dX10_madeOfFour_3 : decode cX10_madeOfFour 3 = .ok (.istore 4, 2) := by decide +kernel
theorem dX10_madeOfFour_5 : decode cX10_madeOfFour 5 = .ok (.iload 4, 2) := by decide +kernel
theorem dX10_madeOfFour_7 : decode cX10_madeOfFour 7 = .ok (.iconst 4, 1) := by decide +kernel
theorem dX10_madeOfFour_8 : decode cX10_madeOfFour 8 = .ok (.if_icmp .ge 32, 3) := by decide +kernel
theorem dX10_madeOfFour_11 : decode cX10_madeOfFour 11 = .ok (.iload_n 2, 1) := by decide +kernel
theorem dX10_madeOfFour_12 : decode cX10_madeOfFour 12 = .ok (.iload 4, 2) := by decide +kernel
theorem dX10_madeOfFour_14 : decode cX10_madeOfFour 14 = .ok (.ishr, 1) := by decide +kernel
theorem dX10_madeOfFour_15 : decode cX10_madeOfFour 15 = .ok (.iconst 1, 1) := by decide +kernel
theorem dX10_madeOfFour_16 : decode cX10_madeOfFour 16 = .ok (.iand, 1) := by decide +kernel
theorem dX10_madeOfFour_17 : decode cX10_madeOfFour 17 = .ok (.ifCond .eq 17, 3) := by decide +kernel
theorem dX10_madeOfFour_20 : decode cX10_madeOfFour 20 = .ok (.iload_n 3, 1) := by decide +kernel
theorem dX10_madeOfFour_21 : decode cX10_madeOfFour 21 = .ok (.iconst 1, 1) := by decide +kernel
theorem dX10_madeOfFour_22 : decode cX10_madeOfFour 22 = .ok (.aload_n 0, 1) := by decide +kernel
theorem dX10_madeOfFour_23 : decode cX10_madeOfFour 23 = .ok (.getfield 41, 3) := by decide +kernel
theorem dX10_madeOfFour_26 : decode cX10_madeOfFour 26 = .ok (.iload_n 1, 1) := by decide +kernel
theorem dX10_madeOfFour_27 : decode cX10_madeOfFour 27 = .ok (.iload 4, 2) := by decide +kernel
theorem dX10_madeOfFour_29 : decode cX10_madeOfFour 29 = .ok (.iadd, 1) := by decide +kernel
theorem dX10_madeOfFour_30 : decode cX10_madeOfFour 30 = .ok (.iaload, 1) := by decide +kernel
theorem dX10_madeOfFour_31 : decode cX10_madeOfFour 31 = .ok (.ishl, 1) := by decide +kernel
theorem dX10_madeOfFour_32 : decode cX10_madeOfFour 32 = .ok (.ior, 1) := by decide +kernel
theorem dX10_madeOfFour_33 : decode cX10_madeOfFour 33 = .ok (.istore_n 3, 1) := by decide +kernel
theorem dX10_madeOfFour_34 : decode cX10_madeOfFour 34 = .ok (.iinc 4 1, 3) := by decide +kernel
theorem dX10_madeOfFour_37 : decode cX10_madeOfFour 37 = .ok (.goto (-32), 3) := by decide +kernel
theorem dX10_madeOfFour_40 : decode cX10_madeOfFour 40 = .ok (.iload_n 3, 1) := by decide +kernel
theorem dX10_madeOfFour_41 : decode cX10_madeOfFour 41 = .ok (.ireturn, 1) := by decide +kernel
theorem dX10_readAlike_0 : decode cX10_readAlike 0 = .ok (.aload_n 0, 1) := by decide +kernel
theorem dX10_readAlike_1 : decode cX10_readAlike 1 = .ok (.getfield 38, 3) := by decide +kernel
theorem dX10_readAlike_4 : decode cX10_readAlike 4 = .ok (.iload_n 1, 1) := by decide +kernel
theorem dX10_readAlike_5 : decode cX10_readAlike 5 = .ok (.iaload, 1) := by decide +kernel
theorem dX10_readAlike_6 : decode cX10_readAlike 6 = .ok (.aload_n 0, 1) := by decide +kernel
theorem dX10_readAlike_7 : decode cX10_readAlike 7 = .ok (.getfield 38, 3) := by decide +kernel
theorem dX10_readAlike_10 : decode cX10_readAlike 10 = .ok (.iload_n 2, 1) := by decide +kernel
theorem dX10_readAlike_11 : decode cX10_readAlike 11 = .ok (.iaload, 1) := by decide +kernel
theorem dX10_readAlike_12 : decode cX10_readAlike 12 = .ok (.if_icmp .eq 5, 3) := by decide +kernel
theorem dX10_readAlike_15 : decode cX10_readAlike 15 = .ok (.iconst 0, 1) := by decide +kernel
theorem dX10_readAlike_16 : decode cX10_readAlike 16 = .ok (.ireturn, 1) := by decide +kernel
theorem dX10_readAlike_17 : decode cX10_readAlike 17 = .ok (.bipush 40, 2) := by decide +kernel
theorem dX10_readAlike_19 : decode cX10_readAlike 19 = .ok (.istore_n 3, 1) := by decide +kernel
theorem dX10_readAlike_20 : decode cX10_readAlike 20 = .ok (.iconst 0, 1) := by decide +kernel
theorem dX10_readAlike_21 : decode cX10_readAlike 21 = .ok (.istore 4, 2) := by decide +kernel
theorem dX10_readAlike_23 : decode cX10_readAlike 23 = .ok (.iload 4, 2) := by decide +kernel
theorem dX10_readAlike_25 : decode cX10_readAlike 25 = .ok (.iload_n 3, 1) := by decide +kernel
theorem dX10_readAlike_26 : decode cX10_readAlike 26 = .ok (.if_icmp .ge 36, 3) := by decide +kernel
theorem dX10_readAlike_29 : decode cX10_readAlike 29 = .ok (.aload_n 0, 1) := by decide +kernel
theorem dX10_readAlike_30 : decode cX10_readAlike 30 = .ok (.getfield 41, 3) := by decide +kernel
theorem dX10_readAlike_33 : decode cX10_readAlike 33 = .ok (.iload_n 1, 1) := by decide +kernel
theorem dX10_readAlike_34 : decode cX10_readAlike 34 = .ok (.iload_n 3, 1) := by decide +kernel
theorem dX10_readAlike_35 : decode cX10_readAlike 35 = .ok (.imul, 1) := by decide +kernel
theorem dX10_readAlike_36 : decode cX10_readAlike 36 = .ok (.iload 4, 2) := by decide +kernel
theorem dX10_readAlike_38 : decode cX10_readAlike 38 = .ok (.iadd, 1) := by decide +kernel
theorem dX10_readAlike_39 : decode cX10_readAlike 39 = .ok (.iaload, 1) := by decide +kernel
theorem dX10_readAlike_40 : decode cX10_readAlike 40 = .ok (.aload_n 0, 1) := by decide +kernel
theorem dX10_readAlike_41 : decode cX10_readAlike 41 = .ok (.getfield 41, 3) := by decide +kernel
theorem dX10_readAlike_44 : decode cX10_readAlike 44 = .ok (.iload_n 2, 1) := by decide +kernel
theorem dX10_readAlike_45 : decode cX10_readAlike 45 = .ok (.iload_n 3, 1) := by decide +kernel
theorem dX10_readAlike_46 : decode cX10_readAlike 46 = .ok (.imul, 1) := by decide +kernel
theorem dX10_readAlike_47 : decode cX10_readAlike 47 = .ok (.iload 4, 2) := by decide +kernel
theorem dX10_readAlike_49 : decode cX10_readAlike 49 = .ok (.iadd, 1) := by decide +kernel
theorem dX10_readAlike_50 : decode cX10_readAlike 50 = .ok (.iaload, 1) := by decide +kernel
theorem dX10_readAlike_51 : decode cX10_readAlike 51 = .ok (.if_icmp .eq 5, 3) := by decide +kernel
theorem dX10_readAlike_54 : decode cX10_readAlike 54 = .ok (.iconst 0, 1) := by decide +kernel
theorem dX10_readAlike_55 : decode cX10_readAlike 55 = .ok (.ireturn, 1) := by decide +kernel
theorem dX10_readAlike_56 : decode cX10_readAlike 56 = .ok (.iinc 4 1, 3) := by decide +kernel
theorem dX10_readAlike_59 : decode cX10_readAlike 59 = .ok (.goto (-36), 3) := by decide +kernel
theorem dX10_readAlike_62 : decode cX10_readAlike 62 = .ok (.iconst 1, 1) := by decide +kernel
theorem dX10_readAlike_63 : decode cX10_readAlike 63 = .ok (.ireturn, 1) := by decide +kernel
theorem dX10_allWeighs_0 : decode cX10_allWeighs 0 = .ok (.iconst 0, 1) := by decide +kernel
theorem dX10_allWeighs_1 : decode cX10_allWeighs 1 = .ok (.istore_n 1, 1) := by decide +kernel
theorem dX10_allWeighs_2 : decode cX10_allWeighs 2 = .ok (.iconst 0, 1) := by decide +kernel
theorem dX10_allWeighs_3 : decode cX10_allWeighs 3 = .ok (.istore_n 2, 1) := by decide +kernel
theorem dX10_allWeighs_4 : decode cX10_allWeighs 4 = .ok (.iload_n 2, 1) := by decide +kernel
theorem dX10_allWeighs_5 : decode cX10_allWeighs 5 = .ok (.aload_n 0, 1) := by decide +kernel
theorem dX10_allWeighs_6 : decode cX10_allWeighs 6 = .ok (.getfield 57, 3) := by decide +kernel
theorem dX10_allWeighs_9 : decode cX10_allWeighs 9 = .ok (.if_icmp .ge 18, 3) := by decide +kernel
theorem dX10_allWeighs_12 : decode cX10_allWeighs 12 = .ok (.iload_n 1, 1) := by decide +kernel
theorem dX10_allWeighs_13 : decode cX10_allWeighs 13 = .ok (.aload_n 0, 1) := by decide +kernel
theorem dX10_allWeighs_14 : decode cX10_allWeighs 14 = .ok (.getfield 32, 3) := by decide +kernel
theorem dX10_allWeighs_17 : decode cX10_allWeighs 17 = .ok (.iload_n 2, 1) := by decide +kernel
theorem dX10_allWeighs_18 : decode cX10_allWeighs 18 = .ok (.iaload, 1) := by decide +kernel
theorem dX10_allWeighs_19 : decode cX10_allWeighs 19 = .ok (.iadd, 1) := by decide +kernel
theorem dX10_allWeighs_20 : decode cX10_allWeighs 20 = .ok (.istore_n 1, 1) := by decide +kernel
theorem dX10_allWeighs_21 : decode cX10_allWeighs 21 = .ok (.iinc 2 1, 3) := by decide +kernel
theorem dX10_allWeighs_24 : decode cX10_allWeighs 24 = .ok (.goto (-20), 3) := by decide +kernel
theorem dX10_allWeighs_27 : decode cX10_allWeighs 27 = .ok (.iload_n 1, 1) := by decide +kernel
theorem dX10_allWeighs_28 : decode cX10_allWeighs 28 = .ok (.ireturn, 1) := by decide +kernel
theorem dX10_weighedAt_0 : decode cX10_weighedAt 0 = .ok (.iconst 0, 1) := by decide +kernel
theorem dX10_weighedAt_1 : decode cX10_weighedAt 1 = .ok (.istore_n 2, 1) := by decide +kernel
theorem dX10_weighedAt_2 : decode cX10_weighedAt 2 = .ok (.iconst 0, 1) := by decide +kernel
theorem dX10_weighedAt_3 : decode cX10_weighedAt 3 = .ok (.istore_n 3, 1) := by decide +kernel
theorem dX10_weighedAt_4 : decode cX10_weighedAt 4 = .ok (.iload_n 3, 1) := by decide +kernel
theorem dX10_weighedAt_5 : decode cX10_weighedAt 5 = .ok (.aload_n 0, 1) := by decide +kernel
theorem dX10_weighedAt_6 : decode cX10_weighedAt 6 = .ok (.getfield 57, 3) := by decide +kernel
theorem dX10_weighedAt_9 : decode cX10_weighedAt 9 = .ok (.iconst 1, 1) := by decide +kernel
theorem dX10_weighedAt_10 : decode cX10_weighedAt 10 = .ok (.isub, 1) := by decide +kernel
theorem dX10_weighedAt_11 : decode cX10_weighedAt 11 = .ok (.if_icmp .ge 25, 3) := by decide +kernel
theorem dX10_weighedAt_14 : decode cX10_weighedAt 14 = .ok (.iload_n 2, 1) := by decide +kernel
theorem dX10_weighedAt_15 : decode cX10_weighedAt 15 = .ok (.aload_n 0, 1) := by decide +kernel
theorem dX10_weighedAt_16 : decode cX10_weighedAt 16 = .ok (.getfield 32, 3) := by decide +kernel
theorem dX10_weighedAt_19 : decode cX10_weighedAt 19 = .ok (.iload_n 3, 1) := by decide +kernel
theorem dX10_weighedAt_20 : decode cX10_weighedAt 20 = .ok (.iaload, 1) := by decide +kernel
theorem dX10_weighedAt_21 : decode cX10_weighedAt 21 = .ok (.iadd, 1) := by decide +kernel
theorem dX10_weighedAt_22 : decode cX10_weighedAt 22 = .ok (.istore_n 2, 1) := by decide +kernel
theorem dX10_weighedAt_23 : decode cX10_weighedAt 23 = .ok (.iload_n 2, 1) := by decide +kernel
theorem dX10_weighedAt_24 : decode cX10_weighedAt 24 = .ok (.iload_n 1, 1) := by decide +kernel
theorem dX10_weighedAt_25 : decode cX10_weighedAt 25 = .ok (.if_icmp .le 5, 3) := by decide +kernel
theorem dX10_weighedAt_28 : decode cX10_weighedAt 28 = .ok (.iload_n 3, 1) := by decide +kernel
theorem dX10_weighedAt_29 : decode cX10_weighedAt 29 = .ok (.ireturn, 1) := by decide +kernel
theorem dX10_weighedAt_30 : decode cX10_weighedAt 30 = .ok (.iinc 3 1, 3) := by decide +kernel
theorem dX10_weighedAt_33 : decode cX10_weighedAt 33 = .ok (.goto (-29), 3) := by decide +kernel
theorem dX10_weighedAt_36 : decode cX10_weighedAt 36 = .ok (.aload_n 0, 1) := by decide +kernel
theorem dX10_weighedAt_37 : decode cX10_weighedAt 37 = .ok (.getfield 57, 3) := by decide +kernel
theorem dX10_weighedAt_40 : decode cX10_weighedAt 40 = .ok (.iconst 1, 1) := by decide +kernel
theorem dX10_weighedAt_41 : decode cX10_weighedAt 41 = .ok (.isub, 1) := by decide +kernel
theorem dX10_weighedAt_42 : decode cX10_weighedAt 42 = .ok (.ireturn, 1) := by decide +kernel
theorem dX10_stepped_0 : decode cX10_stepped 0 = .ok (.lconst 0, 1) := by decide +kernel
theorem dX10_stepped_1 : decode cX10_stepped 1 = .ok (.lstore 4, 2) := by decide +kernel
theorem dX10_stepped_3 : decode cX10_stepped 3 = .ok (.lload_n 1, 1) := by decide +kernel
theorem dX10_stepped_4 : decode cX10_stepped 4 = .ok (.lconst 0, 1) := by decide +kernel
theorem dX10_stepped_5 : decode cX10_stepped 5 = .ok (.lcmp, 1) := by decide +kernel
theorem dX10_stepped_6 : decode cX10_stepped 6 = .ok (.ifCond .ne 7, 3) := by decide +kernel
theorem dX10_stepped_9 : decode cX10_stepped 9 = .ok (.iconst 0, 1) := by decide +kernel
theorem dX10_stepped_10 : decode cX10_stepped 10 = .ok (.goto 9, 3) := by decide +kernel
theorem dX10_stepped_13 : decode cX10_stepped 13 = .ok (.aload_n 0, 1) := by decide +kernel
theorem dX10_stepped_14 : decode cX10_stepped 14 = .ok (.getfield 38, 3) := by decide +kernel
theorem dX10_stepped_17 : decode cX10_stepped 17 = .ok (.iload_n 3, 1) := by decide +kernel
theorem dX10_stepped_18 : decode cX10_stepped 18 = .ok (.iaload, 1) := by decide +kernel
theorem dX10_stepped_19 : decode cX10_stepped 19 = .ok (.istore 6, 2) := by decide +kernel
theorem dX10_stepped_21 : decode cX10_stepped 21 = .ok (.iconst 0, 1) := by decide +kernel
theorem dX10_stepped_22 : decode cX10_stepped 22 = .ok (.istore 7, 2) := by decide +kernel
theorem dX10_stepped_24 : decode cX10_stepped 24 = .ok (.iload 7, 2) := by decide +kernel
theorem dX10_stepped_26 : decode cX10_stepped 26 = .ok (.aload_n 0, 1) := by decide +kernel
theorem dX10_stepped_27 : decode cX10_stepped 27 = .ok (.getfield 50, 3) := by decide +kernel
theorem dX10_stepped_30 : decode cX10_stepped 30 = .ok (.if_icmp .ge 89, 3) := by decide +kernel
theorem dX10_stepped_33 : decode cX10_stepped 33 = .ok (.iload 6, 2) := by decide +kernel
theorem dX10_stepped_35 : decode cX10_stepped 35 = .ok (.iload 7, 2) := by decide +kernel
theorem dX10_stepped_37 : decode cX10_stepped 37 = .ok (.ishr, 1) := by decide +kernel
theorem dX10_stepped_38 : decode cX10_stepped 38 = .ok (.iconst 1, 1) := by decide +kernel
theorem dX10_stepped_39 : decode cX10_stepped 39 = .ok (.iand, 1) := by decide +kernel
theorem dX10_stepped_40 : decode cX10_stepped 40 = .ok (.ifCond .eq 73, 3) := by decide +kernel
theorem dX10_stepped_43 : decode cX10_stepped 43 = .ok (.lload_n 1, 1) := by decide +kernel
theorem dX10_stepped_44 : decode cX10_stepped 44 = .ok (.aload_n 0, 1) := by decide +kernel
theorem dX10_stepped_45 : decode cX10_stepped 45 = .ok (.getfield 25, 3) := by decide +kernel
theorem dX10_stepped_48 : decode cX10_stepped 48 = .ok (.iload 7, 2) := by decide +kernel
theorem dX10_stepped_50 : decode cX10_stepped 50 = .ok (.laload, 1) := by decide +kernel
theorem dX10_stepped_51 : decode cX10_stepped 51 = .ok (.land, 1) := by decide +kernel
theorem dX10_stepped_52 : decode cX10_stepped 52 = .ok (.invokestatic 111, 3) := by decide +kernel
theorem dX10_stepped_55 : decode cX10_stepped 55 = .ok (.istore 8, 2) := by decide +kernel
theorem dX10_stepped_57 : decode cX10_stepped 57 = .ok (.iload_n 3, 1) := by decide +kernel
theorem dX10_stepped_58 : decode cX10_stepped 58 = .ok (.iconst 5, 1) := by decide +kernel
theorem dX10_stepped_59 : decode cX10_stepped 59 = .ok (.imul, 1) := by decide +kernel
theorem dX10_stepped_60 : decode cX10_stepped 60 = .ok (.iload 7, 2) := by decide +kernel
theorem dX10_stepped_62 : decode cX10_stepped 62 = .ok (.iadd, 1) := by decide +kernel
theorem dX10_stepped_63 : decode cX10_stepped 63 = .ok (.bipush 32, 2) := by decide +kernel
theorem dX10_stepped_65 : decode cX10_stepped 65 = .ok (.imul, 1) := by decide +kernel
theorem dX10_stepped_66 : decode cX10_stepped 66 = .ok (.istore 9, 2) := by decide +kernel
theorem dX10_stepped_68 : decode cX10_stepped 68 = .ok (.aload_n 0, 1) := by decide +kernel
theorem dX10_stepped_69 : decode cX10_stepped 69 = .ok (.getfield 44, 3) := by decide +kernel
theorem dX10_stepped_72 : decode cX10_stepped 72 = .ok (.iload 9, 2) := by decide +kernel
theorem dX10_stepped_74 : decode cX10_stepped 74 = .ok (.iload 8, 2) := by decide +kernel
theorem dX10_stepped_76 : decode cX10_stepped 76 = .ok (.bipush 15, 2) := by decide +kernel
theorem dX10_stepped_78 : decode cX10_stepped 78 = .ok (.iand, 1) := by decide +kernel
theorem dX10_stepped_79 : decode cX10_stepped 79 = .ok (.iadd, 1) := by decide +kernel
theorem dX10_stepped_80 : decode cX10_stepped 80 = .ok (.iaload, 1) := by decide +kernel
theorem dX10_stepped_81 : decode cX10_stepped 81 = .ok (.aload_n 0, 1) := by decide +kernel
theorem dX10_stepped_82 : decode cX10_stepped 82 = .ok (.getfield 44, 3) := by decide +kernel
theorem dX10_stepped_85 : decode cX10_stepped 85 = .ok (.iload 9, 2) := by decide +kernel
theorem dX10_stepped_87 : decode cX10_stepped 87 = .ok (.bipush 16, 2) := by decide +kernel
theorem dX10_stepped_89 : decode cX10_stepped 89 = .ok (.iadd, 1) := by decide +kernel
theorem dX10_stepped_90 : decode cX10_stepped 90 = .ok (.iload 8, 2) := by decide +kernel
theorem dX10_stepped_92 : decode cX10_stepped 92 = .ok (.iconst 4, 1) := by decide +kernel
theorem dX10_stepped_93 : decode cX10_stepped 93 = .ok (.ishr, 1) := by decide +kernel
theorem dX10_stepped_94 : decode cX10_stepped 94 = .ok (.iadd, 1) := by decide +kernel
theorem dX10_stepped_95 : decode cX10_stepped 95 = .ok (.iaload, 1) := by decide +kernel
theorem dX10_stepped_96 : decode cX10_stepped 96 = .ok (.ior, 1) := by decide +kernel
theorem dX10_stepped_97 : decode cX10_stepped 97 = .ok (.istore 10, 2) := by decide +kernel
theorem dX10_stepped_99 : decode cX10_stepped 99 = .ok (.lload 4, 2) := by decide +kernel
theorem dX10_stepped_101 : decode cX10_stepped 101 = .ok (.iload 10, 2) := by decide +kernel
theorem dX10_stepped_103 : decode cX10_stepped 103 = .ok (.i2l, 1) := by decide +kernel
theorem dX10_stepped_104 : decode cX10_stepped 104 = .ok (.bipush 8, 2) := by decide +kernel
theorem dX10_stepped_106 : decode cX10_stepped 106 = .ok (.iload 7, 2) := by decide +kernel
theorem dX10_stepped_108 : decode cX10_stepped 108 = .ok (.imul, 1) := by decide +kernel
theorem dX10_stepped_109 : decode cX10_stepped 109 = .ok (.lshl, 1) := by decide +kernel
theorem dX10_stepped_110 : decode cX10_stepped 110 = .ok (.lor, 1) := by decide +kernel
theorem dX10_stepped_111 : decode cX10_stepped 111 = .ok (.lstore 4, 2) := by decide +kernel
theorem dX10_stepped_113 : decode cX10_stepped 113 = .ok (.iinc 7 1, 3) := by decide +kernel
theorem dX10_stepped_116 : decode cX10_stepped 116 = .ok (.goto (-92), 3) := by decide +kernel
theorem dX10_stepped_119 : decode cX10_stepped 119 = .ok (.lload 4, 2) := by decide +kernel
theorem dX10_stepped_121 : decode cX10_stepped 121 = .ok (.lreturn, 1) := by decide +kernel
theorem dX10_meant_0 : decode cX10_meant 0 = .ok (.lload_n 1, 1) := by decide +kernel
theorem dX10_meant_1 : decode cX10_meant 1 = .ok (.aload_n 0, 1) := by decide +kernel
theorem dX10_meant_2 : decode cX10_meant 2 = .ok (.getfield 73, 3) := by decide +kernel
theorem dX10_meant_5 : decode cX10_meant 5 = .ok (.land, 1) := by decide +kernel
theorem dX10_meant_6 : decode cX10_meant 6 = .ok (.invokestatic 111, 3) := by decide +kernel
theorem dX10_meant_9 : decode cX10_meant 9 = .ok (.ireturn, 1) := by decide +kernel
theorem dX10_anyOf_0 : decode cX10_anyOf 0 = .ok (.lload_n 0, 1) := by decide +kernel
theorem dX10_anyOf_1 : decode cX10_anyOf 1 = .ok (.lload_n 0, 1) := by decide +kernel
theorem dX10_anyOf_2 : decode cX10_anyOf 2 = .ok (.bipush 32, 2) := by decide +kernel
theorem dX10_anyOf_4 : decode cX10_anyOf 4 = .ok (.lushr, 1) := by decide +kernel
theorem dX10_anyOf_5 : decode cX10_anyOf 5 = .ok (.lor, 1) := by decide +kernel
theorem dX10_anyOf_6 : decode cX10_anyOf 6 = .ok (.lstore_n 2, 1) := by decide +kernel
theorem dX10_anyOf_7 : decode cX10_anyOf 7 = .ok (.lload_n 2, 1) := by decide +kernel
theorem dX10_anyOf_8 : decode cX10_anyOf 8 = .ok (.lload_n 2, 1) := by decide +kernel
theorem dX10_anyOf_9 : decode cX10_anyOf 9 = .ok (.bipush 16, 2) := by decide +kernel
theorem dX10_anyOf_11 : decode cX10_anyOf 11 = .ok (.lushr, 1) := by decide +kernel
theorem dX10_anyOf_12 : decode cX10_anyOf 12 = .ok (.lor, 1) := by decide +kernel
theorem dX10_anyOf_13 : decode cX10_anyOf 13 = .ok (.lstore_n 2, 1) := by decide +kernel
theorem dX10_anyOf_14 : decode cX10_anyOf 14 = .ok (.lload_n 2, 1) := by decide +kernel
theorem dX10_anyOf_15 : decode cX10_anyOf 15 = .ok (.lload_n 2, 1) := by decide +kernel
theorem dX10_anyOf_16 : decode cX10_anyOf 16 = .ok (.bipush 8, 2) := by decide +kernel
theorem dX10_anyOf_18 : decode cX10_anyOf 18 = .ok (.lushr, 1) := by decide +kernel
theorem dX10_anyOf_19 : decode cX10_anyOf 19 = .ok (.lor, 1) := by decide +kernel
theorem dX10_anyOf_20 : decode cX10_anyOf 20 = .ok (.lstore_n 2, 1) := by decide +kernel
theorem dX10_anyOf_21 : decode cX10_anyOf 21 = .ok (.lload_n 2, 1) := by decide +kernel
theorem dX10_anyOf_22 : decode cX10_anyOf 22 = .ok (.l2i, 1) := by decide +kernel
theorem dX10_anyOf_23 : decode cX10_anyOf 23 = .ok (.sipush 255, 3) := by decide +kernel
theorem dX10_anyOf_26 : decode cX10_anyOf 26 = .ok (.iand, 1) := by decide +kernel
theorem dX10_anyOf_27 : decode cX10_anyOf 27 = .ok (.ireturn, 1) := by decide +kernel
theorem dX11_init_0 : decode cX11_init 0 = .ok (.aload_n 0, 1) := by decide +kernel
theorem dX11_init_1 : decode cX11_init 1 = .ok (.invokespecial 3, 3) := by decide +kernel
theorem dX11_init_4 : decode cX11_init 4 = .ok (.aload_n 0, 1) := by decide +kernel
theorem dX11_init_5 : decode cX11_init 5 = .ok (.bipush 84, 2) := by decide +kernel
theorem dX11_init_7 : decode cX11_init 7 = .ok (.newarray .long, 2) := by decide +kernel
theorem dX11_init_9 : decode cX11_init 9 = .ok (.putfield 9, 3) := by decide +kernel
theorem dX11_init_12 : decode cX11_init 12 = .ok (.aload_n 0, 1) := by decide +kernel
theorem dX11_init_13 : decode cX11_init 13 = .ok (.bipush 84, 2) := by decide +kernel
theorem dX11_init_15 : decode cX11_init 15 = .ok (.newarray .int, 2) := by decide +kernel
theorem dX11_init_17 : decode cX11_init 17 = .ok (.putfield 15, 3) := by decide +kernel
theorem dX11_init_20 : decode cX11_init 20 = .ok (.aload_n 0, 1) := by decide +kernel
theorem dX11_init_21 : decode cX11_init 21 = .ok (.bipush 13, 2) := by decide +kernel
theorem dX11_init_23 : decode cX11_init 23 = .ok (.newarray .int, 2) := by decide +kernel
theorem dX11_init_25 : decode cX11_init 25 = .ok (.putfield 19, 3) := by decide +kernel
theorem dX11_init_28 : decode cX11_init 28 = .ok (.aload_n 0, 1) := by decide +kernel
theorem dX11_init_29 : decode cX11_init 29 = .ok (.bipush 6, 2) := by decide +kernel
theorem dX11_init_31 : decode cX11_init 31 = .ok (.newarray .int, 2) := by decide +kernel
theorem dX11_init_33 : decode cX11_init 33 = .ok (.putfield 22, 3) := by decide +kernel
theorem dX11_init_36 : decode cX11_init 36 = .ok (.aload_n 0, 1) := by decide +kernel
theorem dX11_init_37 : decode cX11_init 37 = .ok (.new 25, 3) := by decide +kernel
theorem dX11_init_40 : decode cX11_init 40 = .ok (.dup, 1) := by decide +kernel
theorem dX11_init_41 : decode cX11_init 41 = .ok (.bipush 13, 2) := by decide +kernel
theorem dX11_init_43 : decode cX11_init 43 = .ok (.invokespecial 27, 3) := by decide +kernel
theorem dX11_init_46 : decode cX11_init 46 = .ok (.putfield 30, 3) := by decide +kernel
theorem dX11_init_49 : decode cX11_init 49 = .ok (.aload_n 0, 1) := by decide +kernel
theorem dX11_init_50 : decode cX11_init 50 = .ok (.iconst (-1), 1) := by decide +kernel
theorem dX11_init_51 : decode cX11_init 51 = .ok (.putfield 34, 3) := by decide +kernel
theorem dX11_init_54 : decode cX11_init 54 = .ok (.aload_n 0, 1) := by decide +kernel
theorem dX11_init_55 : decode cX11_init 55 = .ok (.iconst (-1), 1) := by decide +kernel
theorem dX11_init_56 : decode cX11_init 56 = .ok (.putfield 38, 3) := by decide +kernel
theorem dX11_init_59 : decode cX11_init 59 = .ok (.return_, 1) := by decide +kernel
theorem dX11_begin_0 : decode cX11_begin 0 = .ok (.aload_n 0, 1) := by decide +kernel
theorem dX11_begin_1 : decode cX11_begin 1 = .ok (.aload_n 1, 1) := by decide +kernel
theorem dX11_begin_2 : decode cX11_begin 2 = .ok (.putfield 41, 3) := by decide +kernel
theorem dX11_begin_5 : decode cX11_begin 5 = .ok (.aload_n 0, 1) := by decide +kernel
theorem dX11_begin_6 : decode cX11_begin 6 = .ok (.aload_n 2, 1) := by decide +kernel
theorem dX11_begin_7 : decode cX11_begin 7 = .ok (.getfield 45, 3) := by decide +kernel
theorem dX11_begin_10 : decode cX11_begin 10 = .ok (.iconst 5, 1) := by decide +kernel
theorem dX11_begin_11 : decode cX11_begin 11 = .ok (.invokestatic 50, 3) := by decide +kernel
theorem dX11_begin_14 : decode cX11_begin 14 = .ok (.putfield 56, 3) := by decide +kernel
theorem dX11_begin_17 : decode cX11_begin 17 = .ok (.iconst 0, 1) := by decide +kernel
theorem dX11_begin_18 : decode cX11_begin 18 = .ok (.istore_n 3, 1) := by decide +kernel
theorem dX11_begin_19 : decode cX11_begin 19 = .ok (.iload_n 3, 1) := by decide +kernel
theorem dX11_begin_20 : decode cX11_begin 20 = .ok (.aload_n 0, 1) := by decide +kernel
theorem dX11_begin_21 : decode cX11_begin 21 = .ok (.getfield 56, 3) := by decide +kernel
theorem dX11_begin_24 : decode cX11_begin 24 = .ok (.if_icmp .gt 25, 3) := by decide +kernel
theorem dX11_begin_27 : decode cX11_begin 27 = .ok (.aload_n 0, 1) := by decide +kernel
theorem dX11_begin_28 : decode cX11_begin 28 = .ok (.getfield 9, 3) := by decide +kernel
theorem dX11_begin_31 : decode cX11_begin 31 = .ok (.iload_n 3, 1) := by decide +kernel
theorem dX11_begin_32 : decode cX11_begin 32 = .ok (.ldc2_w 61, 3) := by decide +kernel
theorem dX11_begin_35 : decode cX11_begin 35 = .ok (.lastore, 1) := by decide +kernel
theorem dX11_begin_36 : decode cX11_begin 36 = .ok (.aload_n 0, 1) := by decide +kernel
theorem dX11_begin_37 : decode cX11_begin 37 = .ok (.getfield 15, 3) := by decide +kernel
theorem dX11_begin_40 : decode cX11_begin 40 = .ok (.iload_n 3, 1) := by decide +kernel
theorem dX11_begin_41 : decode cX11_begin 41 = .ok (.iconst 0, 1) := by decide +kernel
theorem dX11_begin_42 : decode cX11_begin 42 = .ok (.iastore, 1) := by decide +kernel
theorem dX11_begin_43 : decode cX11_begin 43 = .ok (.iinc 3 1, 3) := by decide +kernel
theorem dX11_begin_46 : decode cX11_begin 46 = .ok (.goto (-27), 3) := by decide +kernel
theorem dX11_begin_49 : decode cX11_begin 49 = .ok (.iconst 0, 1) := by decide +kernel
theorem dX11_begin_50 : decode cX11_begin 50 = .ok (.istore_n 3, 1) := by decide +kernel
theorem dX11_begin_51 : decode cX11_begin 51 = .ok (.iload_n 3, 1) := by decide +kernel
theorem dX11_begin_52 : decode cX11_begin 52 = .ok (.bipush 13, 2) := by decide +kernel
theorem dX11_begin_54 : decode cX11_begin 54 = .ok (.if_icmp .ge 63, 3) := by decide +kernel
theorem dX11_begin_57 : decode cX11_begin 57 = .ok (.aload_n 0, 1) := by decide +kernel
theorem dX11_begin_58 : decode cX11_begin 58 = .ok (.getfield 19, 3) := by decide +kernel
theorem dX11_begin_61 : decode cX11_begin 61 = .ok (.iload_n 3, 1) := by decide +kernel
theorem dX11_begin_62 : decode cX11_begin 62 = .ok (.iconst 0, 1) := by decide +kernel
theorem dX11_begin_63 : decode cX11_begin 63 = .ok (.iastore, 1) := by decide +kernel
theorem dX11_begin_64 : decode cX11_begin 64 = .ok (.iconst 1, 1) := by decide +kernel
theorem dX11_begin_65 : decode cX11_begin 65 = .ok (.istore 4, 2) := by decide +kernel
theorem dX11_begin_67 : decode cX11_begin 67 = .ok (.iload 4, 2) := by decide +kernel
theorem dX11_begin_69 : decode cX11_begin 69 = .ok (.aload_n 0, 1) := by decide +kernel
theorem dX11_begin_70 : decode cX11_begin 70 = .ok (.getfield 56, 3) := by decide +kernel
theorem dX11_begin_73 : decode cX11_begin 73 = .ok (.if_icmp .gt 38, 3) := by decide +kernel
theorem dX11_begin_76 : decode cX11_begin 76 = .ok (.aload_n 0, 1) := by decide +kernel
theorem dX11_begin_77 : decode cX11_begin 77 = .ok (.getfield 19, 3) := by decide +kernel
theorem dX11_begin_80 : decode cX11_begin 80 = .ok (.iload_n 3, 1) := by decide +kernel
theorem dX11_begin_81 : decode cX11_begin 81 = .ok (.dup2, 1) := by decide +kernel
theorem dX11_begin_82 : decode cX11_begin 82 = .ok (.iaload, 1) := by decide +kernel
theorem dX11_begin_83 : decode cX11_begin 83 = .ok (.aload_n 2, 1) := by decide +kernel
theorem dX11_begin_84 : decode cX11_begin 84 = .ok (.iload 4, 2) := by decide +kernel
theorem dX11_begin_86 : decode cX11_begin 86 = .ok (.iload_n 3, 1) := by decide +kernel
theorem dX11_begin_87 : decode cX11_begin 87 = .ok (.iconst 1, 1) := by decide +kernel
theorem dX11_begin_88 : decode cX11_begin 88 = .ok (.iadd, 1) := by decide +kernel
theorem dX11_begin_89 : decode cX11_begin 89 = .ok (.invokevirtual 63, 3) := by decide +kernel
theorem dX11_begin_92 : decode cX11_begin 92 = .ok (.ifCond .eq 10, 3) := by decide +kernel
theorem dX11_begin_95 : decode cX11_begin 95 = .ok (.iconst 1, 1) := by decide +kernel
theorem dX11_begin_96 : decode cX11_begin 96 = .ok (.iload 4, 2) := by decide +kernel
theorem dX11_begin_98 : decode cX11_begin 98 = .ok (.ishl, 1) := by decide +kernel
theorem dX11_begin_99 : decode cX11_begin 99 = .ok (.goto 4, 3) := by decide +kernel
theorem dX11_begin_102 : decode cX11_begin 102 = .ok (.iconst 0, 1) := by decide +kernel
theorem dX11_begin_103 : decode cX11_begin 103 = .ok (.ior, 1) := by decide +kernel
theorem dX11_begin_104 : decode cX11_begin 104 = .ok (.iastore, 1) := by decide +kernel
theorem dX11_begin_105 : decode cX11_begin 105 = .ok (.iinc 4 1, 3) := by decide +kernel
theorem dX11_begin_108 : decode cX11_begin 108 = .ok (.goto (-41), 3) := by decide +kernel
theorem dX11_begin_111 : decode cX11_begin 111 = .ok (.iinc 3 1, 3) := by decide +kernel
theorem dX11_begin_114 : decode cX11_begin 114 = .ok (.goto (-63), 3) := by decide +kernel
theorem dX11_begin_117 : decode cX11_begin 117 = .ok (.return_, 1) := by decide +kernel
theorem dX11_put_0 : decode cX11_put 0 = .ok (.iload_n 1, 1) := by decide +kernel
theorem dX11_put_1 : decode cX11_put 1 = .ok (.ifCond .lt 9, 3) := by decide +kernel
theorem dX11_put_4 : decode cX11_put 4 = .ok (.iload_n 1, 1) := by decide +kernel
theorem dX11_put_5 : decode cX11_put 5 = .ok (.bipush 13, 2) := by decide +kernel
theorem dX11_put_7 : decode cX11_put 7 = .ok (.if_icmp .lt 5, 3) := by decide +kernel
theorem dX11_put_10 : decode cX11_put 10 = .ok (.iconst 0, 1) := by decide +kernel
theorem dX11_put_11 : decode cX11_put 11 = .ok (.ireturn, 1) := by decide +kernel
theorem dX11_put_12 : decode cX11_put 12 = .ok (.aload_n 0, 1) := by decide +kernel
theorem dX11_put_13 : decode cX11_put 13 = .ok (.getfield 30, 3) := by decide +kernel
theorem dX11_put_16 : decode cX11_put 16 = .ok (.getfield 66, 3) := by decide +kernel
theorem dX11_put_19 : decode cX11_put 19 = .ok (.iload_n 1, 1) := by decide +kernel
theorem dX11_put_20 : decode cX11_put 20 = .ok (.iload_n 2, 1) := by decide +kernel
theorem dX11_put_21 : decode cX11_put 21 = .ok (.iastore, 1) := by decide +kernel
theorem dX11_put_22 : decode cX11_put 22 = .ok (.aload_n 0, 1) := by decide +kernel
theorem dX11_put_23 : decode cX11_put 23 = .ok (.getfield 38, 3) := by decide +kernel
theorem dX11_put_26 : decode cX11_put 26 = .ok (.ifCond .lt 14, 3) := by decide +kernel
theorem dX11_put_29 : decode cX11_put 29 = .ok (.aload_n 0, 1) := by decide +kernel
theorem dX11_put_30 : decode cX11_put 30 = .ok (.iload_n 1, 1) := by decide +kernel
theorem dX11_put_31 : decode cX11_put 31 = .ok (.iload_n 2, 1) := by decide +kernel
theorem dX11_put_32 : decode cX11_put 32 = .ok (.invokevirtual 69, 3) := by decide +kernel
theorem dX11_put_35 : decode cX11_put 35 = .ok (.ifCond .ne 5, 3) := by decide +kernel
theorem dX11_put_38 : decode cX11_put 38 = .ok (.iconst 0, 1) := by decide +kernel
theorem dX11_put_39 : decode cX11_put 39 = .ok (.ireturn, 1) := by decide +kernel
theorem dX11_put_40 : decode cX11_put 40 = .ok (.iload_n 1, 1) := by decide +kernel
theorem dX11_put_41 : decode cX11_put 41 = .ok (.iconst 1, 1) := by decide +kernel
theorem dX11_put_42 : decode cX11_put 42 = .ok (.iadd, 1) := by decide +kernel
theorem dX11_put_43 : decode cX11_put 43 = .ok (.aload_n 0, 1) := by decide +kernel
theorem dX11_put_44 : decode cX11_put 44 = .ok (.getfield 34, 3) := by decide +kernel
theorem dX11_put_47 : decode cX11_put 47 = .ok (.if_icmp .ne 7, 3) := by decide +kernel
theorem dX11_put_50 : decode cX11_put 50 = .ok (.iconst 1, 1) := by decide +kernel
theorem dX11_put_51 : decode cX11_put 51 = .ok (.goto 4, 3) := by decide +kernel
theorem dX11_put_54 : decode cX11_put 54 = .ok (.iconst 0, 1) := by decide +kernel
theorem dX11_put_55 : decode cX11_put 55 = .ok (.istore_n 3, 1) := by decide +kernel
theorem dX11_put_56 : decode cX11_put 56 = .ok (.iload_n 1, 1) := by decide +kernel
theorem dX11_put_57 : decode cX11_put 57 = .ok (.bipush 6, 2) := by decide +kernel
theorem dX11_put_59 : decode cX11_put 59 = .ok (.imul, 1) := by decide +kernel
theorem dX11_put_60 : decode cX11_put 60 = .ok (.istore 4, 2) := by decide +kernel
theorem dX11_put_62 : decode cX11_put 62 = .ok (.iconst 0, 1) := by decide +kernel
theorem dX11_put_63 : decode cX11_put 63 = .ok (.istore 5, 2) := by decide +kernel
theorem dX11_put_65 : decode cX11_put 65 = .ok (.iload 5, 2) := by decide +kernel
theorem dX11_put_67 : decode cX11_put 67 = .ok (.aload_n 0, 1) := by decide +kernel
theorem dX11_put_68 : decode cX11_put 68 = .ok (.getfield 56, 3) := by decide +kernel
theorem dX11_put_71 : decode cX11_put 71 = .ok (.if_icmp .gt 136, 3) := by decide +kernel
theorem dX11_put_74 : decode cX11_put 74 = .ok (.aload_n 0, 1) := by decide +kernel
theorem dX11_put_75 : decode cX11_put 75 = .ok (.getfield 22, 3) := by decide +kernel
theorem dX11_put_78 : decode cX11_put 78 = .ok (.iload 5, 2) := by decide +kernel
theorem dX11_put_80 : decode cX11_put 80 = .ok (.iaload, 1) := by decide +kernel
theorem dX11_put_81 : decode cX11_put 81 = .ok (.bipush 9, 2) := by decide +kernel
theorem dX11_put_83 : decode cX11_put 83 = .ok (.if_icmp .eq 118, 3) := by decide +kernel
theorem dX11_put_86 : decode cX11_put 86 = .ok (.aload_n 0, 1) := by decide +kernel
theorem dX11_put_87 : decode cX11_put 87 = .ok (.getfield 19, 3) := by decide +kernel
theorem dX11_put_90 : decode cX11_put 90 = .ok (.iload_n 1, 1) := by decide +kernel
theorem dX11_put_91 : decode cX11_put 91 = .ok (.iaload, 1) := by decide +kernel
theorem dX11_put_92 : decode cX11_put 92 = .ok (.iload 5, 2) := by decide +kernel
theorem dX11_put_94 : decode cX11_put 94 = .ok (.ishr, 1) := by decide +kernel
theorem dX11_put_95 : decode cX11_put 95 = .ok (.iconst 1, 1) := by decide +kernel
theorem dX11_put_96 : decode cX11_put 96 = .ok (.iand, 1) := by decide +kernel
theorem dX11_put_97 : decode cX11_put 97 = .ok (.ifCond .eq 7, 3) := by decide +kernel
theorem dX11_put_100 : decode cX11_put 100 = .ok (.iconst 1, 1) := by decide +kernel
theorem dX11_put_101 : decode cX11_put 101 = .ok (.goto 4, 3) := by decide +kernel
theorem dX11_put_104 : decode cX11_put 104 = .ok (.iconst 0, 1) := by decide +kernel
theorem dX11_put_105 : decode cX11_put 105 = .ok (.istore 6, 2) := by decide +kernel
theorem dX11_put_107 : decode cX11_put 107 = .ok (.iload 6, 2) := by decide +kernel
theorem dX11_put_109 : decode cX11_put 109 = .ok (.ifCond .eq 16, 3) := by decide +kernel
theorem dX11_put_112 : decode cX11_put 112 = .ok (.aload_n 0, 1) := by decide +kernel
theorem dX11_put_113 : decode cX11_put 113 = .ok (.getfield 9, 3) := by decide +kernel
theorem dX11_put_116 : decode cX11_put 116 = .ok (.iload 4, 2) := by decide +kernel
theorem dX11_put_118 : decode cX11_put 118 = .ok (.iload 5, 2) := by decide +kernel
theorem dX11_put_120 : decode cX11_put 120 = .ok (.iadd, 1) := by decide +kernel
theorem dX11_put_121 : decode cX11_put 121 = .ok (.laload, 1) := by decide +kernel
theorem dX11_put_122 : decode cX11_put 122 = .ok (.goto 21, 3) := by decide +kernel
theorem dX11_put_125 : decode cX11_put 125 = .ok (.aload_n 0, 1) := by decide +kernel
theorem dX11_put_126 : decode cX11_put 126 = .ok (.getfield 41, 3) := by decide +kernel
theorem dX11_put_129 : decode cX11_put 129 = .ok (.aload_n 0, 1) := by decide +kernel
theorem dX11_put_130 : decode cX11_put 130 = .ok (.getfield 9, 3) := by decide +kernel
theorem dX11_put_133 : decode cX11_put 133 = .ok (.iload 4, 2) := by decide +kernel
theorem dX11_put_135 : decode cX11_put 135 = .ok (.iload 5, 2) := by decide +kernel
theorem dX11_put_137 : decode cX11_put 137 = .ok (.iadd, 1) := by decide +kernel
theorem dX11_put_138 : decode cX11_put 138 = .ok (.laload, 1) := by decide +kernel
theorem dX11_put_139 : decode cX11_put 139 = .ok (.iload_n 2, 1) := by decide +kernel
theorem dX11_put_140 : decode cX11_put 140 = .ok (.invokevirtual 72, 3) := by decide +kernel
theorem dX11_put_143 : decode cX11_put 143 = .ok (.lstore 7, 2) := by decide +kernel
theorem dX11_put_145 : decode cX11_put 145 = .ok (.aload_n 0, 1) := by decide +kernel
theorem dX11_put_146 : decode cX11_put 146 = .ok (.getfield 9, 3) := by decide +kernel
theorem dX11_put_149 : decode cX11_put 149 = .ok (.iload 4, 2) := by decide +kernel
theorem dX11_put_151 : decode cX11_put 151 = .ok (.bipush 6, 2) := by decide +kernel
theorem dX11_put_153 : decode cX11_put 153 = .ok (.iadd, 1) := by decide +kernel
theorem dX11_put_154 : decode cX11_put 154 = .ok (.iload 5, 2) := by decide +kernel
theorem dX11_put_156 : decode cX11_put 156 = .ok (.iadd, 1) := by decide +kernel
theorem dX11_put_157 : decode cX11_put 157 = .ok (.lload 7, 2) := by decide +kernel
theorem dX11_put_159 : decode cX11_put 159 = .ok (.lastore, 1) := by decide +kernel
theorem dX11_put_160 : decode cX11_put 160 = .ok (.lload 7, 2) := by decide +kernel
theorem dX11_put_162 : decode cX11_put 162 = .ok (.lconst 0, 1) := by decide +kernel
theorem dX11_put_163 : decode cX11_put 163 = .ok (.lcmp, 1) := by decide +kernel
theorem dX11_put_164 : decode cX11_put 164 = .ok (.ifCond .ne 15, 3) := by decide +kernel
theorem dX11_put_167 : decode cX11_put 167 = .ok (.aload_n 0, 1) := by decide +kernel
theorem dX11_put_168 : decode cX11_put 168 = .ok (.getfield 22, 3) := by decide +kernel
theorem dX11_put_171 : decode cX11_put 171 = .ok (.iload 5, 2) := by decide +kernel
theorem dX11_put_173 : decode cX11_put 173 = .ok (.iaload, 1) := by decide +kernel
theorem dX11_put_174 : decode cX11_put 174 = .ok (.bipush 8, 2) := by decide +kernel
theorem dX11_put_176 : decode cX11_put 176 = .ok (.if_icmp .ne 23, 3) := by decide +kernel
theorem dX11_put_179 : decode cX11_put 179 = .ok (.iload_n 3, 1) := by decide +kernel
theorem dX11_put_180 : decode cX11_put 180 = .ok (.ifCond .eq 21, 3) := by decide +kernel
theorem dX11_put_183 : decode cX11_put 183 = .ok (.aload_n 0, 1) := by decide +kernel
theorem dX11_put_184 : decode cX11_put 184 = .ok (.lload 7, 2) := by decide +kernel
theorem dX11_put_186 : decode cX11_put 186 = .ok (.aload_n 0, 1) := by decide +kernel
theorem dX11_put_187 : decode cX11_put 187 = .ok (.getfield 22, 3) := by decide +kernel
theorem dX11_put_190 : decode cX11_put 190 = .ok (.iload 5, 2) := by decide +kernel
theorem dX11_put_192 : decode cX11_put 192 = .ok (.iaload, 1) := by decide +kernel
theorem dX11_put_193 : decode cX11_put 193 = .ok (.invokevirtual 76, 3) := by decide +kernel
theorem dX11_put_196 : decode cX11_put 196 = .ok (.ifCond .ne 5, 3) := by decide +kernel
theorem dX11_put_199 : decode cX11_put 199 = .ok (.iconst 0, 1) := by decide +kernel
theorem dX11_put_200 : decode cX11_put 200 = .ok (.ireturn, 1) := by decide +kernel
theorem dX11_put_201 : decode cX11_put 201 = .ok (.iinc 5 1, 3) := by decide +kernel
theorem dX11_put_204 : decode cX11_put 204 = .ok (.goto (-139), 3) := by decide +kernel
theorem dX11_put_207 : decode cX11_put 207 = .ok (.iconst 1, 1) := by decide +kernel
theorem dX11_put_208 : decode cX11_put 208 = .ok (.ireturn, 1) := by decide +kernel
theorem dX11_beatsFit_0 : decode cX11_beatsFit 0 = .ok (.iload_n 1, 1) := by decide +kernel
theorem dX11_beatsFit_1 : decode cX11_beatsFit 1 = .ok (.iconst 1, 1) := by decide +kernel
theorem dX11_beatsFit_2 : decode cX11_beatsFit 2 = .ok (.iadd, 1) := by decide +kernel
theorem dX11_beatsFit_3 : decode cX11_beatsFit 3 = .ok (.aload_n 0, 1) := by decide +kernel
theorem dX11_beatsFit_4 : decode cX11_beatsFit 4 = .ok (.getfield 34, 3) := by decide +kernel
theorem dX11_beatsFit_7 : decode cX11_beatsFit 7 = .ok (.if_icmp .ne 7, 3) := by decide +kernel
theorem dX11_beatsFit_10 : decode cX11_beatsFit 10 = .ok (.iconst 1, 1) := by decide +kernel
theorem dX11_beatsFit_11 : decode cX11_beatsFit 11 = .ok (.goto 4, 3) := by decide +kernel
theorem dX11_beatsFit_14 : decode cX11_beatsFit 14 = .ok (.iconst 0, 1) := by decide +kernel
theorem dX11_beatsFit_15 : decode cX11_beatsFit 15 = .ok (.istore_n 3, 1) := by decide +kernel
theorem dX11_beatsFit_16 : decode cX11_beatsFit 16 = .ok (.iload_n 1, 1) := by decide +kernel
theorem dX11_beatsFit_17 : decode cX11_beatsFit 17 = .ok (.bipush 6, 2) := by decide +kernel
theorem dX11_beatsFit_19 : decode cX11_beatsFit 19 = .ok (.imul, 1) := by decide +kernel
theorem dX11_beatsFit_20 : decode cX11_beatsFit 20 = .ok (.istore 4, 2) := by decide +kernel
theorem dX11_beatsFit_22 : decode cX11_beatsFit 22 = .ok (.iconst 1, 1) := by decide +kernel
theorem dX11_beatsFit_23 : decode cX11_beatsFit 23 = .ok (.istore 5, 2) := by decide +kernel
theorem dX11_beatsFit_25 : decode cX11_beatsFit 25 = .ok (.iload 5, 2) := by decide +kernel
theorem dX11_beatsFit_27 : decode cX11_beatsFit 27 = .ok (.aload_n 0, 1) := by decide +kernel
theorem dX11_beatsFit_28 : decode cX11_beatsFit 28 = .ok (.getfield 56, 3) := by decide +kernel
theorem dX11_beatsFit_31 : decode cX11_beatsFit 31 = .ok (.if_icmp .gt 100, 3) := by decide +kernel
theorem dX11_beatsFit_34 : decode cX11_beatsFit 34 = .ok (.aload_n 0, 1) := by decide +kernel
theorem dX11_beatsFit_35 : decode cX11_beatsFit 35 = .ok (.getfield 19, 3) := by decide +kernel
theorem dX11_beatsFit_38 : decode cX11_beatsFit 38 = .ok (.iload_n 1, 1) := by decide +kernel
theorem dX11_beatsFit_39 : decode cX11_beatsFit 39 = .ok (.iaload, 1) := by decide +kernel
theorem dX11_beatsFit_40 : decode cX11_beatsFit 40 = .ok (.iload 5, 2) := by decide +kernel
theorem dX11_beatsFit_42 : decode cX11_beatsFit 42 = .ok (.ishr, 1) := by decide +kernel
theorem dX11_beatsFit_43 : decode cX11_beatsFit 43 = .ok (.iconst 1, 1) := by decide +kernel
theorem dX11_beatsFit_44 : decode cX11_beatsFit 44 = .ok (.iand, 1) := by decide +kernel
theorem dX11_beatsFit_45 : decode cX11_beatsFit 45 = .ok (.ifCond .eq 7, 3) := by decide +kernel
theorem dX11_beatsFit_48 : decode cX11_beatsFit 48 = .ok (.iconst 1, 1) := by decide +kernel
theorem dX11_beatsFit_49 : decode cX11_beatsFit 49 = .ok (.goto 4, 3) := by decide +kernel
theorem dX11_beatsFit_52 : decode cX11_beatsFit 52 = .ok (.iconst 0, 1) := by decide +kernel
theorem dX11_beatsFit_53 : decode cX11_beatsFit 53 = .ok (.istore 6, 2) := by decide +kernel
theorem dX11_beatsFit_55 : decode cX11_beatsFit 55 = .ok (.aload_n 0, 1) := by decide +kernel
theorem dX11_beatsFit_56 : decode cX11_beatsFit 56 = .ok (.getfield 15, 3) := by decide +kernel
theorem dX11_beatsFit_59 : decode cX11_beatsFit 59 = .ok (.iload 4, 2) := by decide +kernel
theorem dX11_beatsFit_61 : decode cX11_beatsFit 61 = .ok (.iload 5, 2) := by decide +kernel
theorem dX11_beatsFit_63 : decode cX11_beatsFit 63 = .ok (.iadd, 1) := by decide +kernel
theorem dX11_beatsFit_64 : decode cX11_beatsFit 64 = .ok (.iaload, 1) := by decide +kernel
theorem dX11_beatsFit_65 : decode cX11_beatsFit 65 = .ok (.iload 6, 2) := by decide +kernel
theorem dX11_beatsFit_67 : decode cX11_beatsFit 67 = .ok (.ifCond .eq 7, 3) := by decide +kernel
theorem dX11_beatsFit_70 : decode cX11_beatsFit 70 = .ok (.iconst 0, 1) := by decide +kernel
theorem dX11_beatsFit_71 : decode cX11_beatsFit 71 = .ok (.goto 12, 3) := by decide +kernel
theorem dX11_beatsFit_74 : decode cX11_beatsFit 74 = .ok (.aload_n 0, 1) := by decide +kernel
theorem dX11_beatsFit_75 : decode cX11_beatsFit 75 = .ok (.getfield 41, 3) := by decide +kernel
theorem dX11_beatsFit_78 : decode cX11_beatsFit 78 = .ok (.getfield 80, 3) := by decide +kernel
theorem dX11_beatsFit_81 : decode cX11_beatsFit 81 = .ok (.iload_n 2, 1) := by decide +kernel
theorem dX11_beatsFit_82 : decode cX11_beatsFit 82 = .ok (.iaload, 1) := by decide +kernel
theorem dX11_beatsFit_83 : decode cX11_beatsFit 83 = .ok (.iadd, 1) := by decide +kernel
theorem dX11_beatsFit_84 : decode cX11_beatsFit 84 = .ok (.istore 7, 2) := by decide +kernel
theorem dX11_beatsFit_86 : decode cX11_beatsFit 86 = .ok (.aload_n 0, 1) := by decide +kernel
theorem dX11_beatsFit_87 : decode cX11_beatsFit 87 = .ok (.getfield 15, 3) := by decide +kernel
theorem dX11_beatsFit_90 : decode cX11_beatsFit 90 = .ok (.iload 4, 2) := by decide +kernel
theorem dX11_beatsFit_92 : decode cX11_beatsFit 92 = .ok (.bipush 6, 2) := by decide +kernel
theorem dX11_beatsFit_94 : decode cX11_beatsFit 94 = .ok (.iadd, 1) := by decide +kernel
theorem dX11_beatsFit_95 : decode cX11_beatsFit 95 = .ok (.iload 5, 2) := by decide +kernel
theorem dX11_beatsFit_97 : decode cX11_beatsFit 97 = .ok (.iadd, 1) := by decide +kernel
theorem dX11_beatsFit_98 : decode cX11_beatsFit 98 = .ok (.iload 7, 2) := by decide +kernel
theorem dX11_beatsFit_100 : decode cX11_beatsFit 100 = .ok (.iastore, 1) := by decide +kernel
theorem dX11_beatsFit_101 : decode cX11_beatsFit 101 = .ok (.iload 7, 2) := by decide +kernel
theorem dX11_beatsFit_103 : decode cX11_beatsFit 103 = .ok (.aload_n 0, 1) := by decide +kernel
theorem dX11_beatsFit_104 : decode cX11_beatsFit 104 = .ok (.getfield 38, 3) := by decide +kernel
theorem dX11_beatsFit_107 : decode cX11_beatsFit 107 = .ok (.if_icmp .gt 16, 3) := by decide +kernel
theorem dX11_beatsFit_110 : decode cX11_beatsFit 110 = .ok (.iload_n 3, 1) := by decide +kernel
theorem dX11_beatsFit_111 : decode cX11_beatsFit 111 = .ok (.ifCond .eq 14, 3) := by decide +kernel
theorem dX11_beatsFit_114 : decode cX11_beatsFit 114 = .ok (.iload 7, 2) := by decide +kernel
theorem dX11_beatsFit_116 : decode cX11_beatsFit 116 = .ok (.aload_n 0, 1) := by decide +kernel
theorem dX11_beatsFit_117 : decode cX11_beatsFit 117 = .ok (.getfield 38, 3) := by decide +kernel
theorem dX11_beatsFit_120 : decode cX11_beatsFit 120 = .ok (.if_icmp .eq 5, 3) := by decide +kernel
theorem dX11_beatsFit_123 : decode cX11_beatsFit 123 = .ok (.iconst 0, 1) := by decide +kernel
theorem dX11_beatsFit_124 : decode cX11_beatsFit 124 = .ok (.ireturn, 1) := by decide +kernel
theorem dX11_beatsFit_125 : decode cX11_beatsFit 125 = .ok (.iinc 5 1, 3) := by decide +kernel
theorem dX11_beatsFit_128 : decode cX11_beatsFit 128 = .ok (.goto (-103), 3) := by decide +kernel
theorem dX11_beatsFit_131 : decode cX11_beatsFit 131 = .ok (.iconst 1, 1) := by decide +kernel
theorem dX11_beatsFit_132 : decode cX11_beatsFit 132 = .ok (.ireturn, 1) := by decide +kernel
theorem dX11_meets_0 : decode cX11_meets 0 = .ok (.aload_n 0, 1) := by decide +kernel
theorem dX11_meets_1 : decode cX11_meets 1 = .ok (.getfield 41, 3) := by decide +kernel
theorem dX11_meets_4 : decode cX11_meets 4 = .ok (.lload_n 1, 1) := by decide +kernel
theorem dX11_meets_5 : decode cX11_meets 5 = .ok (.invokevirtual 81, 3) := by decide +kernel
theorem dX11_meets_8 : decode cX11_meets 8 = .ok (.istore 4, 2) := by decide +kernel
theorem dX11_meets_10 : decode cX11_meets 10 = .ok (.iload_n 3, 1) := by decide +kernel
theorem dX11_meets_11 : decode cX11_meets 11 = .ok (.bipush 8, 2) := by decide +kernel
theorem dX11_meets_13 : decode cX11_meets 13 = .ok (.if_icmp .ne 14, 3) := by decide +kernel
theorem dX11_meets_16 : decode cX11_meets 16 = .ok (.iload 4, 2) := by decide +kernel
theorem dX11_meets_18 : decode cX11_meets 18 = .ok (.ifCond .ne 7, 3) := by decide +kernel
theorem dX11_meets_21 : decode cX11_meets 21 = .ok (.iconst 1, 1) := by decide +kernel
theorem dX11_meets_22 : decode cX11_meets 22 = .ok (.goto 4, 3) := by decide +kernel
theorem dX11_meets_25 : decode cX11_meets 25 = .ok (.iconst 0, 1) := by decide +kernel
theorem dX11_meets_26 : decode cX11_meets 26 = .ok (.ireturn, 1) := by decide +kernel
theorem dX11_meets_27 : decode cX11_meets 27 = .ok (.iload_n 3, 1) := by decide +kernel
theorem dX11_meets_28 : decode cX11_meets 28 = .ok (.bipush 10, 2) := by decide +kernel
theorem dX11_meets_30 : decode cX11_meets 30 = .ok (.if_icmp .ne 20, 3) := by decide +kernel
theorem dX11_meets_33 : decode cX11_meets 33 = .ok (.iload 4, 2) := by decide +kernel
theorem dX11_meets_35 : decode cX11_meets 35 = .ok (.invokestatic 85, 3) := by decide +kernel
theorem dX11_meets_38 : decode cX11_meets 38 = .ok (.iconst 1, 1) := by decide +kernel
theorem dX11_meets_39 : decode cX11_meets 39 = .ok (.if_icmp .ne 7, 3) := by decide +kernel
theorem dX11_meets_42 : decode cX11_meets 42 = .ok (.iconst 1, 1) := by decide +kernel
theorem dX11_meets_43 : decode cX11_meets 43 = .ok (.goto 20, 3) := by decide +kernel
theorem dX11_meets_46 : decode cX11_meets 46 = .ok (.iconst 0, 1) := by decide +kernel
theorem dX11_meets_47 : decode cX11_meets 47 = .ok (.goto 16, 3) := by decide +kernel
theorem dX11_meets_50 : decode cX11_meets 50 = .ok (.iload 4, 2) := by decide +kernel
theorem dX11_meets_52 : decode cX11_meets 52 = .ok (.iconst 1, 1) := by decide +kernel
theorem dX11_meets_53 : decode cX11_meets 53 = .ok (.iload_n 3, 1) := by decide +kernel
theorem dX11_meets_54 : decode cX11_meets 54 = .ok (.ishl, 1) := by decide +kernel
theorem dX11_meets_55 : decode cX11_meets 55 = .ok (.if_icmp .ne 7, 3) := by decide +kernel
theorem dX11_meets_58 : decode cX11_meets 58 = .ok (.iconst 1, 1) := by decide +kernel
theorem dX11_meets_59 : decode cX11_meets 59 = .ok (.goto 4, 3) := by decide +kernel
theorem dX11_meets_62 : decode cX11_meets 62 = .ok (.iconst 0, 1) := by decide +kernel
theorem dX11_meets_63 : decode cX11_meets 63 = .ok (.ireturn, 1) := by decide +kernel
theorem dX11_agreed_0 : decode cX11_agreed 0 = .ok (.iconst 0, 1) := by decide +kernel
theorem dX11_agreed_1 : decode cX11_agreed 1 = .ok (.istore_n 2, 1) := by decide +kernel
theorem dX11_agreed_2 : decode cX11_agreed 2 = .ok (.iconst 0, 1) := by decide +kernel
theorem dX11_agreed_3 : decode cX11_agreed 3 = .ok (.istore_n 3, 1) := by decide +kernel
theorem dX11_agreed_4 : decode cX11_agreed 4 = .ok (.iload_n 3, 1) := by decide +kernel
theorem dX11_agreed_5 : decode cX11_agreed 5 = .ok (.aload_n 0, 1) := by decide +kernel
theorem dX11_agreed_6 : decode cX11_agreed 6 = .ok (.getfield 56, 3) := by decide +kernel
theorem dX11_agreed_9 : decode cX11_agreed 9 = .ok (.if_icmp .gt 64, 3) := by decide +kernel
theorem dX11_agreed_12 : decode cX11_agreed 12 = .ok (.aload_n 0, 1) := by decide +kernel
theorem dX11_agreed_13 : decode cX11_agreed 13 = .ok (.getfield 22, 3) := by decide +kernel
theorem dX11_agreed_16 : decode cX11_agreed 16 = .ok (.iload_n 3, 1) := by decide +kernel
theorem dX11_agreed_17 : decode cX11_agreed 17 = .ok (.iaload, 1) := by decide +kernel
theorem dX11_agreed_18 : decode cX11_agreed 18 = .ok (.bipush 9, 2) := by decide +kernel
theorem dX11_agreed_20 : decode cX11_agreed 20 = .ok (.if_icmp .eq 47, 3) := by decide +kernel
theorem dX11_agreed_23 : decode cX11_agreed 23 = .ok (.aload_n 0, 1) := by decide +kernel
theorem dX11_agreed_24 : decode cX11_agreed 24 = .ok (.getfield 41, 3) := by decide +kernel
theorem dX11_agreed_27 : decode cX11_agreed 27 = .ok (.aload_n 0, 1) := by decide +kernel
theorem dX11_agreed_28 : decode cX11_agreed 28 = .ok (.getfield 9, 3) := by decide +kernel
theorem dX11_agreed_31 : decode cX11_agreed 31 = .ok (.iload_n 1, 1) := by decide +kernel
theorem dX11_agreed_32 : decode cX11_agreed 32 = .ok (.bipush 6, 2) := by decide +kernel
theorem dX11_agreed_34 : decode cX11_agreed 34 = .ok (.imul, 1) := by decide +kernel
theorem dX11_agreed_35 : decode cX11_agreed 35 = .ok (.iload_n 3, 1) := by decide +kernel
theorem dX11_agreed_36 : decode cX11_agreed 36 = .ok (.iadd, 1) := by decide +kernel
theorem dX11_agreed_37 : decode cX11_agreed 37 = .ok (.laload, 1) := by decide +kernel
theorem dX11_agreed_38 : decode cX11_agreed 38 = .ok (.invokevirtual 81, 3) := by decide +kernel
theorem dX11_agreed_41 : decode cX11_agreed 41 = .ok (.istore 4, 2) := by decide +kernel
theorem dX11_agreed_43 : decode cX11_agreed 43 = .ok (.iload 4, 2) := by decide +kernel
theorem dX11_agreed_45 : decode cX11_agreed 45 = .ok (.invokestatic 85, 3) := by decide +kernel
theorem dX11_agreed_48 : decode cX11_agreed 48 = .ok (.iconst 1, 1) := by decide +kernel
theorem dX11_agreed_49 : decode cX11_agreed 49 = .ok (.if_icmp .ne 13, 3) := by decide +kernel
theorem dX11_agreed_52 : decode cX11_agreed 52 = .ok (.iload_n 2, 1) := by decide +kernel
theorem dX11_agreed_53 : decode cX11_agreed 53 = .ok (.ifCond .eq 11, 3) := by decide +kernel
theorem dX11_agreed_56 : decode cX11_agreed 56 = .ok (.iload_n 2, 1) := by decide +kernel
theorem dX11_agreed_57 : decode cX11_agreed 57 = .ok (.iload 4, 2) := by decide +kernel
theorem dX11_agreed_59 : decode cX11_agreed 59 = .ok (.if_icmp .eq 5, 3) := by decide +kernel
theorem dX11_agreed_62 : decode cX11_agreed 62 = .ok (.iconst 0, 1) := by decide +kernel
theorem dX11_agreed_63 : decode cX11_agreed 63 = .ok (.ireturn, 1) := by decide +kernel
theorem dX11_agreed_64 : decode cX11_agreed 64 = .ok (.iload 4, 2) := by decide +kernel
theorem dX11_agreed_66 : decode cX11_agreed 66 = .ok (.istore_n 2, 1) := by decide +kernel
theorem dX11_agreed_67 : decode cX11_agreed 67 = .ok (.iinc 3 1, 3) := by decide +kernel
theorem dX11_agreed_70 : decode cX11_agreed 70 = .ok (.goto (-66), 3) := by decide +kernel
theorem dX11_agreed_73 : decode cX11_agreed 73 = .ok (.iload_n 2, 1) := by decide +kernel
theorem dX11_agreed_74 : decode cX11_agreed 74 = .ok (.ireturn, 1) := by decide +kernel
theorem dX12_init_0 : decode cX12_init 0 = .ok (.aload_n 0, 1) := by decide +kernel
theorem dX12_init_1 : decode cX12_init 1 = .ok (.invokespecial 3, 3) := by decide +kernel
theorem dX12_init_4 : decode cX12_init 4 = .ok (.aload_n 0, 1) := by decide +kernel
theorem dX12_init_5 : decode cX12_init 5 = .ok (.new 9, 3) := by decide +kernel
theorem dX12_init_8 : decode cX12_init 8 = .ok (.dup, 1) := by decide +kernel
theorem dX12_init_9 : decode cX12_init 9 = .ok (.sipush 940, 3) := by decide +kernel
theorem dX12_init_12 : decode cX12_init 12 = .ok (.invokespecial 11, 3) := by decide +kernel
theorem dX12_init_15 : decode cX12_init 15 = .ok (.putfield 14, 3) := by decide +kernel
theorem dX12_init_18 : decode cX12_init 18 = .ok (.aload_n 0, 1) := by decide +kernel
theorem dX12_init_19 : decode cX12_init 19 = .ok (.new 18, 3) := by decide +kernel
theorem dX12_init_22 : decode cX12_init 22 = .ok (.dup, 1) := by decide +kernel
theorem dX12_init_23 : decode cX12_init 23 = .ok (.invokespecial 20, 3) := by decide +kernel
theorem dX12_init_26 : decode cX12_init 26 = .ok (.putfield 21, 3) := by decide +kernel
theorem dX12_init_29 : decode cX12_init 29 = .ok (.aload_n 0, 1) := by decide +kernel
theorem dX12_init_30 : decode cX12_init 30 = .ok (.new 25, 3) := by decide +kernel
theorem dX12_init_33 : decode cX12_init 33 = .ok (.dup, 1) := by decide +kernel
theorem dX12_init_34 : decode cX12_init 34 = .ok (.invokespecial 27, 3) := by decide +kernel
theorem dX12_init_37 : decode cX12_init 37 = .ok (.putfield 28, 3) := by decide +kernel
theorem dX12_init_40 : decode cX12_init 40 = .ok (.aload_n 0, 1) := by decide +kernel
theorem dX12_init_41 : decode cX12_init 41 = .ok (.iconst 2, 1) := by decide +kernel
theorem dX12_init_42 : decode cX12_init 42 = .ok (.anewarray 25, 3) := by decide +kernel
theorem dX12_init_45 : decode cX12_init 45 = .ok (.dup, 1) := by decide +kernel
theorem dX12_init_46 : decode cX12_init 46 = .ok (.iconst 0, 1) := by decide +kernel
theorem dX12_init_47 : decode cX12_init 47 = .ok (.new 25, 3) := by decide +kernel
theorem dX12_init_50 : decode cX12_init 50 = .ok (.dup, 1) := by decide +kernel
theorem dX12_init_51 : decode cX12_init 51 = .ok (.invokespecial 27, 3) := by decide +kernel
theorem dX12_init_54 : decode cX12_init 54 = .ok (.aastore, 1) := by decide +kernel
theorem dX12_init_55 : decode cX12_init 55 = .ok (.dup, 1) := by decide +kernel
theorem dX12_init_56 : decode cX12_init 56 = .ok (.iconst 1, 1) := by decide +kernel
theorem dX12_init_57 : decode cX12_init 57 = .ok (.new 25, 3) := by decide +kernel
theorem dX12_init_60 : decode cX12_init 60 = .ok (.dup, 1) := by decide +kernel
theorem dX12_init_61 : decode cX12_init 61 = .ok (.invokespecial 27, 3) := by decide +kernel
theorem dX12_init_64 : decode cX12_init 64 = .ok (.aastore, 1) := by decide +kernel
theorem dX12_init_65 : decode cX12_init 65 = .ok (.putfield 32, 3) := by decide +kernel
theorem dX12_init_68 : decode cX12_init 68 = .ok (.aload_n 0, 1) := by decide +kernel
theorem dX12_init_69 : decode cX12_init 69 = .ok (.iconst 2, 1) := by decide +kernel
theorem dX12_init_70 : decode cX12_init 70 = .ok (.newarray .boolean, 2) := by decide +kernel
theorem dX12_init_72 : decode cX12_init 72 = .ok (.putfield 36, 3) := by decide +kernel
theorem dX12_init_75 : decode cX12_init 75 = .ok (.aload_n 0, 1) := by decide +kernel
theorem dX12_init_76 : decode cX12_init 76 = .ok (.new 40, 3) := by decide +kernel
theorem dX12_init_79 : decode cX12_init 79 = .ok (.dup, 1) := by decide +kernel
theorem dX12_init_80 : decode cX12_init 80 = .ok (.invokespecial 42, 3) := by decide +kernel
theorem dX12_init_83 : decode cX12_init 83 = .ok (.putfield 43, 3) := by decide +kernel
theorem dX12_init_86 : decode cX12_init 86 = .ok (.aload_n 0, 1) := by decide +kernel
theorem dX12_init_87 : decode cX12_init 87 = .ok (.new 47, 3) := by decide +kernel
theorem dX12_init_90 : decode cX12_init 90 = .ok (.dup, 1) := by decide +kernel
theorem dX12_init_91 : decode cX12_init 91 = .ok (.invokespecial 49, 3) := by decide +kernel
theorem dX12_init_94 : decode cX12_init 94 = .ok (.putfield 50, 3) := by decide +kernel
theorem dX12_init_97 : decode cX12_init 97 = .ok (.aload_n 0, 1) := by decide +kernel
theorem dX12_init_98 : decode cX12_init 98 = .ok (.new 54, 3) := by decide +kernel
theorem dX12_init_101 : decode cX12_init 101 = .ok (.dup, 1) := by decide +kernel
theorem dX12_init_102 : decode cX12_init 102 = .ok (.invokespecial 56, 3) := by decide +kernel
theorem dX12_init_105 : decode cX12_init 105 = .ok (.putfield 57, 3) := by decide +kernel
theorem dX12_init_108 : decode cX12_init 108 = .ok (.aload_n 0, 1) := by decide +kernel
theorem dX12_init_109 : decode cX12_init 109 = .ok (.new 9, 3) := by decide +kernel
theorem dX12_init_112 : decode cX12_init 112 = .ok (.dup, 1) := by decide +kernel
theorem dX12_init_113 : decode cX12_init 113 = .ok (.bipush 13, 2) := by decide +kernel
theorem dX12_init_115 : decode cX12_init 115 = .ok (.invokespecial 11, 3) := by decide +kernel
theorem dX12_init_118 : decode cX12_init 118 = .ok (.putfield 61, 3) := by decide +kernel
theorem dX12_init_121 : decode cX12_init 121 = .ok (.aload_n 0, 1) := by decide +kernel
theorem dX12_init_122 : decode cX12_init 122 = .ok (.new 64, 3) := by decide +kernel
theorem dX12_init_125 : decode cX12_init 125 = .ok (.dup, 1) := by decide +kernel
theorem dX12_init_126 : decode cX12_init 126 = .ok (.invokespecial 66, 3) := by decide +kernel
theorem dX12_init_129 : decode cX12_init 129 = .ok (.putfield 67, 3) := by decide +kernel
theorem dX12_init_132 : decode cX12_init 132 = .ok (.aload_n 0, 1) := by decide +kernel
theorem dX12_init_133 : decode cX12_init 133 = .ok (.new 9, 3) := by decide +kernel
theorem dX12_init_136 : decode cX12_init 136 = .ok (.dup, 1) := by decide +kernel
theorem dX12_init_137 : decode cX12_init 137 = .ok (.bipush 24, 2) := by decide +kernel
theorem dX12_init_139 : decode cX12_init 139 = .ok (.invokespecial 11, 3) := by decide +kernel
theorem dX12_init_142 : decode cX12_init 142 = .ok (.putfield 71, 3) := by decide +kernel
theorem dX12_init_145 : decode cX12_init 145 = .ok (.return_, 1) := by decide +kernel
theorem dX12_feed_0 : decode cX12_feed 0 = .ok (.aload_n 0, 1) := by decide +kernel
theorem dX12_feed_1 : decode cX12_feed 1 = .ok (.getfield 14, 3) := by decide +kernel
theorem dX12_feed_4 : decode cX12_feed 4 = .ok (.getfield 74, 3) := by decide +kernel
theorem dX12_feed_7 : decode cX12_feed 7 = .ok (.bipush 20, 2) := by decide +kernel
theorem dX12_feed_9 : decode cX12_feed 9 = .ok (.iadd, 1) := by decide +kernel
theorem dX12_feed_10 : decode cX12_feed 10 = .ok (.sipush 940, 3) := by decide +kernel
theorem dX12_feed_13 : decode cX12_feed 13 = .ok (.if_icmp .le 5, 3) := by decide +kernel
theorem dX12_feed_16 : decode cX12_feed 16 = .ok (.iconst (-1), 1) := by decide +kernel
theorem dX12_feed_17 : decode cX12_feed 17 = .ok (.ireturn, 1) := by decide +kernel
theorem dX12_feed_18 : decode cX12_feed 18 = .ok (.aload_n 0, 1) := by decide +kernel
theorem dX12_feed_19 : decode cX12_feed 19 = .ok (.iload_n 1, 1) := by decide +kernel
theorem dX12_feed_20 : decode cX12_feed 20 = .ok (.invokevirtual 78, 3) := by decide +kernel
theorem dX12_feed_23 : decode cX12_feed 23 = .ok (.aload_n 0, 1) := by decide +kernel
theorem dX12_feed_24 : decode cX12_feed 24 = .ok (.iload_n 2, 1) := by decide +kernel
theorem dX12_feed_25 : decode cX12_feed 25 = .ok (.invokevirtual 78, 3) := by decide +kernel
theorem dX12_feed_28 : decode cX12_feed 28 = .ok (.aload_n 0, 1) := by decide +kernel
theorem dX12_feed_29 : decode cX12_feed 29 = .ok (.iload_n 3, 1) := by decide +kernel
theorem dX12_feed_30 : decode cX12_feed 30 = .ok (.invokevirtual 78, 3) := by decide +kernel
theorem dX12_feed_33 : decode cX12_feed 33 = .ok (.aload_n 0, 1) := by decide +kernel
theorem dX12_feed_34 : decode cX12_feed 34 = .ok (.iload 4, 2) := by decide +kernel
theorem dX12_feed_36 : decode cX12_feed 36 = .ok (.invokevirtual 78, 3) := by decide +kernel
theorem dX12_feed_39 : decode cX12_feed 39 = .ok (.aload_n 0, 1) := by decide +kernel
theorem dX12_feed_40 : decode cX12_feed 40 = .ok (.iload 5, 2) := by decide +kernel
theorem dX12_feed_42 : decode cX12_feed 42 = .ok (.invokevirtual 78, 3) := by decide +kernel
theorem dX12_feed_45 : decode cX12_feed 45 = .ok (.aload_n 0, 1) := by decide +kernel
theorem dX12_feed_46 : decode cX12_feed 46 = .ok (.getfield 14, 3) := by decide +kernel
theorem dX12_feed_49 : decode cX12_feed 49 = .ok (.getfield 74, 3) := by decide +kernel
theorem dX12_feed_52 : decode cX12_feed 52 = .ok (.ireturn, 1) := by decide +kernel
theorem dX12_end_0 : decode cX12_end 0 = .ok (.iload_n 1, 1) := by decide +kernel
theorem dX12_end_1 : decode cX12_end 1 = .ok (.ifCond .lt 14, 3) := by decide +kernel
theorem dX12_end_4 : decode cX12_end 4 = .ok (.iload_n 1, 1) := by decide +kernel
theorem dX12_end_5 : decode cX12_end 5 = .ok (.aload_n 0, 1) := by decide +kernel
theorem dX12_end_6 : decode cX12_end 6 = .ok (.getfield 14, 3) := by decide +kernel
theorem dX12_end_9 : decode cX12_end 9 = .ok (.getfield 74, 3) := by decide +kernel
theorem dX12_end_12 : decode cX12_end 12 = .ok (.if_icmp .le 5, 3) := by decide +kernel
theorem dX12_end_15 : decode cX12_end 15 = .ok (.iconst 0, 1) := by decide +kernel
theorem dX12_end_16 : decode cX12_end 16 = .ok (.ireturn, 1) := by decide +kernel
theorem dX12_end_17 : decode cX12_end 17 = .ok (.aload_n 0, 1) := by decide +kernel
theorem dX12_end_18 : decode cX12_end 18 = .ok (.getfield 14, 3) := by decide +kernel
theorem dX12_end_21 : decode cX12_end 21 = .ok (.iload_n 1, 1) := by decide +kernel
theorem dX12_end_22 : decode cX12_end 22 = .ok (.putfield 74, 3) := by decide +kernel
theorem dX12_end_25 : decode cX12_end 25 = .ok (.iconst 1, 1) := by decide +kernel
theorem dX12_end_26 : decode cX12_end 26 = .ok (.ireturn, 1) := by decide +kernel
theorem dX12_tongue_0 : decode cX12_tongue 0 = .ok (.aload_n 0, 1) := by decide +kernel
theorem dX12_tongue_1 : decode cX12_tongue 1 = .ok (.getfield 21, 3) := by decide +kernel
theorem dX12_tongue_4 : decode cX12_tongue 4 = .ok (.aload_n 0, 1) := by decide +kernel
theorem dX12_tongue_5 : decode cX12_tongue 5 = .ok (.getfield 14, 3) := by decide +kernel
theorem dX12_tongue_8 : decode cX12_tongue 8 = .ok (.aload_n 0, 1) := by decide +kernel
theorem dX12_tongue_9 : decode cX12_tongue 9 = .ok (.getfield 67, 3) := by decide +kernel
theorem dX12_tongue_12 : decode cX12_tongue 12 = .ok (.invokevirtual 81, 3) := by decide +kernel
theorem dX12_tongue_15 : decode cX12_tongue 15 = .ok (.istore_n 1, 1) := by decide +kernel
theorem dX12_tongue_16 : decode cX12_tongue 16 = .ok (.aload_n 0, 1) := by decide +kernel
theorem dX12_tongue_17 : decode cX12_tongue 17 = .ok (.getfield 14, 3) := by decide +kernel
theorem dX12_tongue_20 : decode cX12_tongue 20 = .ok (.iconst 0, 1) := by decide +kernel
theorem dX12_tongue_21 : decode cX12_tongue 21 = .ok (.putfield 74, 3) := by decide +kernel
theorem dX12_tongue_24 : decode cX12_tongue 24 = .ok (.aload_n 0, 1) := by decide +kernel
theorem dX12_tongue_25 : decode cX12_tongue 25 = .ok (.aload_n 0, 1) := by decide +kernel
theorem dX12_tongue_26 : decode cX12_tongue 26 = .ok (.getfield 21, 3) := by decide +kernel
theorem dX12_tongue_29 : decode cX12_tongue 29 = .ok (.getfield 85, 3) := by decide +kernel
theorem dX12_tongue_32 : decode cX12_tongue 32 = .ok (.putfield 88, 3) := by decide +kernel
theorem dX12_tongue_35 : decode cX12_tongue 35 = .ok (.iload_n 1, 1) := by decide +kernel
theorem dX12_tongue_36 : decode cX12_tongue 36 = .ok (.ifCond .lt 14, 3) := by decide +kernel
theorem dX12_tongue_39 : decode cX12_tongue 39 = .ok (.aload_n 0, 1) := by decide +kernel
theorem dX12_tongue_40 : decode cX12_tongue 40 = .ok (.getfield 28, 3) := by decide +kernel
theorem dX12_tongue_43 : decode cX12_tongue 43 = .ok (.aload_n 0, 1) := by decide +kernel
theorem dX12_tongue_44 : decode cX12_tongue 44 = .ok (.getfield 67, 3) := by decide +kernel
theorem dX12_tongue_47 : decode cX12_tongue 47 = .ok (.invokevirtual 91, 3) := by decide +kernel
theorem dX12_tongue_50 : decode cX12_tongue 50 = .ok (.iload_n 1, 1) := by decide +kernel
theorem dX12_tongue_51 : decode cX12_tongue 51 = .ok (.ireturn, 1) := by decide +kernel
theorem dX12_fault_0 : decode cX12_fault 0 = .ok (.aload_n 0, 1) := by decide +kernel
theorem dX12_fault_1 : decode cX12_fault 1 = .ok (.getfield 88, 3) := by decide +kernel
theorem dX12_fault_4 : decode cX12_fault 4 = .ok (.ireturn, 1) := by decide +kernel
theorem dX12_word_0 : decode cX12_word 0 = .ok (.aload_n 0, 1) := by decide +kernel
theorem dX12_word_1 : decode cX12_word 1 = .ok (.getfield 28, 3) := by decide +kernel
theorem dX12_word_4 : decode cX12_word 4 = .ok (.getfield 95, 3) := by decide +kernel
theorem dX12_word_7 : decode cX12_word 7 = .ok (.astore_n 3, 1) := by decide +kernel
theorem dX12_word_8 : decode cX12_word 8 = .ok (.aload_n 3, 1) := by decide +kernel
theorem dX12_word_9 : decode cX12_word 9 = .ok (.iload_n 1, 1) := by decide +kernel
theorem dX12_word_10 : decode cX12_word 10 = .ok (.invokevirtual 98, 3) := by decide +kernel
theorem dX12_word_13 : decode cX12_word 13 = .ok (.ifCond .eq 12, 3) := by decide +kernel
theorem dX12_word_16 : decode cX12_word 16 = .ok (.iload_n 2, 1) := by decide +kernel
theorem dX12_word_17 : decode cX12_word 17 = .ok (.ifCond .lt 8, 3) := by decide +kernel
theorem dX12_word_20 : decode cX12_word 20 = .ok (.iload_n 2, 1) := by decide +kernel
theorem dX12_word_21 : decode cX12_word 21 = .ok (.iconst 4, 1) := by decide +kernel
theorem dX12_word_22 : decode cX12_word 22 = .ok (.if_icmp .le 13, 3) := by decide +kernel
theorem dX12_word_25 : decode cX12_word 25 = .ok (.new 102, 3) := by decide +kernel
theorem dX12_word_28 : decode cX12_word 28 = .ok (.dup, 1) := by decide +kernel
theorem dX12_word_29 : decode cX12_word 29 = .ok (.ldc 104, 2) := by decide +kernel
theorem dX12_word_31 : decode cX12_word 31 = .ok (.invokespecial 106, 3) := by decide +kernel
theorem dX12_word_34 : decode cX12_word 34 = .ok (.athrow, 1) := by decide +kernel
theorem dX12_word_35 : decode cX12_word 35 = .ok (.iload_n 2, 1) := by decide +kernel
theorem dX12_word_36 : decode cX12_word 36 = .ok (.tableswitch 62 0 3 #[32, 39, 46, 53], 32) := by decide +kernel
theorem dX12_word_68 : decode cX12_word 68 = .ok (.aload_n 3, 1) := by decide +kernel
theorem dX12_word_69 : decode cX12_word 69 = .ok (.getfield 109, 3) := by decide +kernel
theorem dX12_word_72 : decode cX12_word 72 = .ok (.iload_n 1, 1) := by decide +kernel
theorem dX12_word_73 : decode cX12_word 73 = .ok (.iaload, 1) := by decide +kernel
theorem dX12_word_74 : decode cX12_word 74 = .ok (.ireturn, 1) := by decide +kernel
theorem dX12_word_75 : decode cX12_word 75 = .ok (.aload_n 3, 1) := by decide +kernel
theorem dX12_word_76 : decode cX12_word 76 = .ok (.getfield 113, 3) := by decide +kernel
theorem dX12_word_79 : decode cX12_word 79 = .ok (.iload_n 1, 1) := by decide +kernel
theorem dX12_word_80 : decode cX12_word 80 = .ok (.iaload, 1) := by decide +kernel
theorem dX12_word_81 : decode cX12_word 81 = .ok (.ireturn, 1) := by decide +kernel
theorem dX12_word_82 : decode cX12_word 82 = .ok (.aload_n 3, 1) := by decide +kernel
theorem dX12_word_83 : decode cX12_word 83 = .ok (.getfield 116, 3) := by decide +kernel
theorem dX12_word_86 : decode cX12_word 86 = .ok (.iload_n 1, 1) := by decide +kernel
theorem dX12_word_87 : decode cX12_word 87 = .ok (.iaload, 1) := by decide +kernel
theorem dX12_word_88 : decode cX12_word 88 = .ok (.ireturn, 1) := by decide +kernel
theorem dX12_word_89 : decode cX12_word 89 = .ok (.aload_n 3, 1) := by decide +kernel
theorem dX12_word_90 : decode cX12_word 90 = .ok (.getfield 119, 3) := by decide +kernel
theorem dX12_word_93 : decode cX12_word 93 = .ok (.iload_n 1, 1) := by decide +kernel
theorem dX12_word_94 : decode cX12_word 94 = .ok (.ishr, 1) := by decide +kernel
theorem dX12_word_95 : decode cX12_word 95 = .ok (.iconst 1, 1) := by decide +kernel
theorem dX12_word_96 : decode cX12_word 96 = .ok (.iand, 1) := by decide +kernel
theorem dX12_word_97 : decode cX12_word 97 = .ok (.ireturn, 1) := by decide +kernel
theorem dX12_word_98 : decode cX12_word 98 = .ok (.aload_n 3, 1) := by decide +kernel
theorem dX12_word_99 : decode cX12_word 99 = .ok (.getfield 122, 3) := by decide +kernel
theorem dX12_word_102 : decode cX12_word 102 = .ok (.iload_n 1, 1) := by decide +kernel
theorem dX12_word_103 : decode cX12_word 103 = .ok (.iaload, 1) := by decide +kernel
theorem dX12_word_104 : decode cX12_word 104 = .ok (.invokestatic 125, 3) := by decide +kernel
theorem dX12_word_107 : decode cX12_word 107 = .ok (.ireturn, 1) := by decide +kernel
theorem dX12_becomes_0 : decode cX12_becomes 0 = .ok (.aload_n 0, 1) := by decide +kernel
theorem dX12_becomes_1 : decode cX12_becomes 1 = .ok (.getfield 28, 3) := by decide +kernel
theorem dX12_becomes_4 : decode cX12_becomes 4 = .ok (.getfield 95, 3) := by decide +kernel
theorem dX12_becomes_7 : decode cX12_becomes 7 = .ok (.astore 4, 2) := by decide +kernel
theorem dX12_becomes_9 : decode cX12_becomes 9 = .ok (.iload_n 3, 1) := by decide +kernel
theorem dX12_becomes_10 : decode cX12_becomes 10 = .ok (.invokestatic 131, 3) := by decide +kernel
theorem dX12_becomes_13 : decode cX12_becomes 13 = .ok (.ifCond .eq 31, 3) := by decide +kernel
theorem dX12_becomes_16 : decode cX12_becomes 16 = .ok (.aload 4, 2) := by decide +kernel
theorem dX12_becomes_18 : decode cX12_becomes 18 = .ok (.iload_n 1, 1) := by decide +kernel
theorem dX12_becomes_19 : decode cX12_becomes 19 = .ok (.invokevirtual 98, 3) := by decide +kernel
theorem dX12_becomes_22 : decode cX12_becomes 22 = .ok (.ifCond .eq 22, 3) := by decide +kernel
theorem dX12_becomes_25 : decode cX12_becomes 25 = .ok (.aload 4, 2) := by decide +kernel
theorem dX12_becomes_27 : decode cX12_becomes 27 = .ok (.iload_n 2, 1) := by decide +kernel
theorem dX12_becomes_28 : decode cX12_becomes 28 = .ok (.invokevirtual 134, 3) := by decide +kernel
theorem dX12_becomes_31 : decode cX12_becomes 31 = .ok (.ifCond .eq 13, 3) := by decide +kernel
theorem dX12_becomes_34 : decode cX12_becomes 34 = .ok (.aload 4, 2) := by decide +kernel
theorem dX12_becomes_36 : decode cX12_becomes 36 = .ok (.iload_n 1, 1) := by decide +kernel
theorem dX12_becomes_37 : decode cX12_becomes 37 = .ok (.iload_n 2, 1) := by decide +kernel
theorem dX12_becomes_38 : decode cX12_becomes 38 = .ok (.invokevirtual 137, 3) := by decide +kernel
theorem dX12_becomes_41 : decode cX12_becomes 41 = .ok (.ifCond .ne 5, 3) := by decide +kernel
theorem dX12_becomes_44 : decode cX12_becomes 44 = .ok (.iconst (-1), 1) := by decide +kernel
theorem dX12_becomes_45 : decode cX12_becomes 45 = .ok (.ireturn, 1) := by decide +kernel
theorem dX12_becomes_46 : decode cX12_becomes 46 = .ok (.aload 4, 2) := by decide +kernel
theorem dX12_becomes_48 : decode cX12_becomes 48 = .ok (.iload_n 1, 1) := by decide +kernel
theorem dX12_becomes_49 : decode cX12_becomes 49 = .ok (.iload_n 2, 1) := by decide +kernel
theorem dX12_becomes_50 : decode cX12_becomes 50 = .ok (.iload_n 3, 1) := by decide +kernel
theorem dX12_becomes_51 : decode cX12_becomes 51 = .ok (.invokevirtual 141, 3) := by decide +kernel
theorem dX12_becomes_54 : decode cX12_becomes 54 = .ok (.ireturn, 1) := by decide +kernel
theorem dX12_text_0 : decode cX12_text 0 = .ok (.aload_n 0, 1) := by decide +kernel
theorem dX12_text_1 : decode cX12_text 1 = .ok (.getfield 21, 3) := by decide +kernel
theorem dX12_text_4 : decode cX12_text 4 = .ok (.aload_n 0, 1) := by decide +kernel
theorem dX12_text_5 : decode cX12_text 5 = .ok (.getfield 14, 3) := by decide +kernel
theorem dX12_text_8 : decode cX12_text 8 = .ok (.aload_n 0, 1) := by decide +kernel
theorem dX12_text_9 : decode cX12_text 9 = .ok (.getfield 28, 3) := by decide +kernel
theorem dX12_text_12 : decode cX12_text 12 = .ok (.getfield 95, 3) := by decide +kernel
theorem dX12_text_15 : decode cX12_text 15 = .ok (.aload_n 0, 1) := by decide +kernel
theorem dX12_text_16 : decode cX12_text 16 = .ok (.getfield 71, 3) := by decide +kernel
theorem dX12_text_19 : decode cX12_text 19 = .ok (.invokevirtual 145, 3) := by decide +kernel
theorem dX12_text_22 : decode cX12_text 22 = .ok (.istore_n 1, 1) := by decide +kernel
theorem dX12_text_23 : decode cX12_text 23 = .ok (.aload_n 0, 1) := by decide +kernel
theorem dX12_text_24 : decode cX12_text 24 = .ok (.getfield 14, 3) := by decide +kernel
theorem dX12_text_27 : decode cX12_text 27 = .ok (.iconst 0, 1) := by decide +kernel
theorem dX12_text_28 : decode cX12_text 28 = .ok (.putfield 74, 3) := by decide +kernel
theorem dX12_text_31 : decode cX12_text 31 = .ok (.aload_n 0, 1) := by decide +kernel
theorem dX12_text_32 : decode cX12_text 32 = .ok (.aload_n 0, 1) := by decide +kernel
theorem dX12_text_33 : decode cX12_text 33 = .ok (.getfield 21, 3) := by decide +kernel
theorem dX12_text_36 : decode cX12_text 36 = .ok (.getfield 85, 3) := by decide +kernel
theorem dX12_text_39 : decode cX12_text 39 = .ok (.putfield 88, 3) := by decide +kernel
theorem dX12_text_42 : decode cX12_text 42 = .ok (.iload_n 1, 1) := by decide +kernel
theorem dX12_text_43 : decode cX12_text 43 = .ok (.ifCond .lt 17, 3) := by decide +kernel
theorem dX12_text_46 : decode cX12_text 46 = .ok (.aload_n 0, 1) := by decide +kernel
theorem dX12_text_47 : decode cX12_text 47 = .ok (.getfield 28, 3) := by decide +kernel
theorem dX12_text_50 : decode cX12_text 50 = .ok (.getfield 149, 3) := by decide +kernel
theorem dX12_text_53 : decode cX12_text 53 = .ok (.aload_n 0, 1) := by decide +kernel
theorem dX12_text_54 : decode cX12_text 54 = .ok (.getfield 71, 3) := by decide +kernel
theorem dX12_text_57 : decode cX12_text 57 = .ok (.invokevirtual 152, 3) := by decide +kernel
theorem dX12_text_60 : decode cX12_text 60 = .ok (.iload_n 1, 1) := by decide +kernel
theorem dX12_text_61 : decode cX12_text 61 = .ok (.ireturn, 1) := by decide +kernel
theorem dX12_lay_0 : decode cX12_lay 0 = .ok (.aload_n 0, 1) := by decide +kernel
theorem dX12_lay_1 : decode cX12_lay 1 = .ok (.bipush 24, 2) := by decide +kernel
theorem dX12_lay_3 : decode cX12_lay 3 = .ok (.invokevirtual 156, 3) := by decide +kernel
theorem dX12_lay_6 : decode cX12_lay 6 = .ok (.istore_n 1, 1) := by decide +kernel
theorem dX12_lay_7 : decode cX12_lay 7 = .ok (.iload_n 1, 1) := by decide +kernel
theorem dX12_lay_8 : decode cX12_lay 8 = .ok (.ifCond .ne 5, 3) := by decide +kernel
theorem dX12_lay_11 : decode cX12_lay 11 = .ok (.iconst (-1), 1) := by decide +kernel
theorem dX12_lay_12 : decode cX12_lay 12 = .ok (.ireturn, 1) := by decide +kernel
theorem dX12_lay_13 : decode cX12_lay 13 = .ok (.aload_n 0, 1) := by decide +kernel
theorem dX12_lay_14 : decode cX12_lay 14 = .ok (.getfield 28, 3) := by decide +kernel
theorem dX12_lay_17 : decode cX12_lay 17 = .ok (.getfield 149, 3) := by decide +kernel
theorem dX12_lay_20 : decode cX12_lay 20 = .ok (.aload_n 0, 1) := by decide +kernel
theorem dX12_lay_21 : decode cX12_lay 21 = .ok (.getfield 71, 3) := by decide +kernel
theorem dX12_lay_24 : decode cX12_lay 24 = .ok (.invokevirtual 152, 3) := by decide +kernel
theorem dX12_lay_27 : decode cX12_lay 27 = .ok (.aload_n 0, 1) := by decide +kernel
theorem dX12_lay_28 : decode cX12_lay 28 = .ok (.getfield 28, 3) := by decide +kernel
theorem dX12_lay_31 : decode cX12_lay 31 = .ok (.getfield 149, 3) := by decide +kernel
theorem dX12_lay_34 : decode cX12_lay 34 = .ok (.getfield 74, 3) := by decide +kernel
theorem dX12_lay_37 : decode cX12_lay 37 = .ok (.ireturn, 1) := by decide +kernel
theorem dX12_alike_0 : decode cX12_alike 0 = .ok (.aload_n 0, 1) := by decide +kernel
theorem dX12_alike_1 : decode cX12_alike 1 = .ok (.getfield 28, 3) := by decide +kernel
theorem dX12_alike_4 : decode cX12_alike 4 = .ok (.getfield 95, 3) := by decide +kernel
theorem dX12_alike_7 : decode cX12_alike 7 = .ok (.astore_n 2, 1) := by decide +kernel
theorem dX12_alike_8 : decode cX12_alike 8 = .ok (.aload_n 2, 1) := by decide +kernel
theorem dX12_alike_9 : decode cX12_alike 9 = .ok (.iload_n 1, 1) := by decide +kernel
theorem dX12_alike_10 : decode cX12_alike 10 = .ok (.invokevirtual 98, 3) := by decide +kernel
theorem dX12_alike_13 : decode cX12_alike 13 = .ok (.ifCond .ne 5, 3) := by decide +kernel
theorem dX12_alike_16 : decode cX12_alike 16 = .ok (.iconst (-1), 1) := by decide +kernel
theorem dX12_alike_17 : decode cX12_alike 17 = .ok (.ireturn, 1) := by decide +kernel
theorem dX12_alike_18 : decode cX12_alike 18 = .ok (.iconst 0, 1) := by decide +kernel
theorem dX12_alike_19 : decode cX12_alike 19 = .ok (.istore_n 3, 1) := by decide +kernel
theorem dX12_alike_20 : decode cX12_alike 20 = .ok (.iconst 0, 1) := by decide +kernel
theorem dX12_alike_21 : decode cX12_alike 21 = .ok (.istore 4, 2) := by decide +kernel
theorem dX12_alike_23 : decode cX12_alike 23 = .ok (.iload 4, 2) := by decide +kernel
theorem dX12_alike_25 : decode cX12_alike 25 = .ok (.aload_n 2, 1) := by decide +kernel
theorem dX12_alike_26 : decode cX12_alike 26 = .ok (.getfield 159, 3) := by decide +kernel
theorem dX12_alike_29 : decode cX12_alike 29 = .ok (.if_icmp .ge 26, 3) := by decide +kernel
theorem dX12_alike_32 : decode cX12_alike 32 = .ok (.aload_n 2, 1) := by decide +kernel
theorem dX12_alike_33 : decode cX12_alike 33 = .ok (.iload_n 1, 1) := by decide +kernel
theorem dX12_alike_34 : decode cX12_alike 34 = .ok (.iload 4, 2) := by decide +kernel
theorem dX12_alike_36 : decode cX12_alike 36 = .ok (.invokevirtual 162, 3) := by decide +kernel
theorem dX12_alike_39 : decode cX12_alike 39 = .ok (.ifCond .eq 10, 3) := by decide +kernel
theorem dX12_alike_42 : decode cX12_alike 42 = .ok (.iload_n 3, 1) := by decide +kernel
theorem dX12_alike_43 : decode cX12_alike 43 = .ok (.iconst 1, 1) := by decide +kernel
theorem dX12_alike_44 : decode cX12_alike 44 = .ok (.iload 4, 2) := by decide +kernel
theorem dX12_alike_46 : decode cX12_alike 46 = .ok (.ishl, 1) := by decide +kernel
theorem dX12_alike_47 : decode cX12_alike 47 = .ok (.ior, 1) := by decide +kernel
theorem dX12_alike_48 : decode cX12_alike 48 = .ok (.istore_n 3, 1) := by decide +kernel
theorem dX12_alike_49 : decode cX12_alike 49 = .ok (.iinc 4 1, 3) := by decide +kernel
theorem dX12_alike_52 : decode cX12_alike 52 = .ok (.goto (-29), 3) := by decide +kernel
theorem dX12_alike_55 : decode cX12_alike 55 = .ok (.iload_n 3, 1) := by decide +kernel
theorem dX12_alike_56 : decode cX12_alike 56 = .ok (.ireturn, 1) := by decide +kernel
theorem dX12_drawn_0 : decode cX12_drawn 0 = .ok (.aload_n 0, 1) := by decide +kernel
theorem dX12_drawn_1 : decode cX12_drawn 1 = .ok (.getfield 28, 3) := by decide +kernel
theorem dX12_drawn_4 : decode cX12_drawn 4 = .ok (.getfield 95, 3) := by decide +kernel
theorem dX12_drawn_7 : decode cX12_drawn 7 = .ok (.astore_n 3, 1) := by decide +kernel
theorem dX12_drawn_8 : decode cX12_drawn 8 = .ok (.aload_n 3, 1) := by decide +kernel
theorem dX12_drawn_9 : decode cX12_drawn 9 = .ok (.invokevirtual 165, 3) := by decide +kernel
theorem dX12_drawn_12 : decode cX12_drawn 12 = .ok (.istore 4, 2) := by decide +kernel
theorem dX12_drawn_14 : decode cX12_drawn 14 = .ok (.iload_n 1, 1) := by decide +kernel
theorem dX12_drawn_15 : decode cX12_drawn 15 = .ok (.iconst 1, 1) := by decide +kernel
theorem dX12_drawn_16 : decode cX12_drawn 16 = .ok (.if_icmp .lt 14, 3) := by decide +kernel
theorem dX12_drawn_19 : decode cX12_drawn 19 = .ok (.iload_n 1, 1) := by decide +kernel
theorem dX12_drawn_20 : decode cX12_drawn 20 = .ok (.bipush 24, 2) := by decide +kernel
theorem dX12_drawn_22 : decode cX12_drawn 22 = .ok (.if_icmp .gt 8, 3) := by decide +kernel
theorem dX12_drawn_25 : decode cX12_drawn 25 = .ok (.iload 4, 2) := by decide +kernel
theorem dX12_drawn_27 : decode cX12_drawn 27 = .ok (.ifCond .gt 5, 3) := by decide +kernel
theorem dX12_drawn_30 : decode cX12_drawn 30 = .ok (.iconst (-1), 1) := by decide +kernel
theorem dX12_drawn_31 : decode cX12_drawn 31 = .ok (.ireturn, 1) := by decide +kernel
theorem dX12_drawn_32 : decode cX12_drawn 32 = .ok (.aload_n 0, 1) := by decide +kernel
theorem dX12_drawn_33 : decode cX12_drawn 33 = .ok (.getfield 28, 3) := by decide +kernel
theorem dX12_drawn_36 : decode cX12_drawn 36 = .ok (.getfield 149, 3) := by decide +kernel
theorem dX12_drawn_39 : decode cX12_drawn 39 = .ok (.iconst 0, 1) := by decide +kernel
theorem dX12_drawn_40 : decode cX12_drawn 40 = .ok (.putfield 74, 3) := by decide +kernel
theorem dX12_drawn_43 : decode cX12_drawn 43 = .ok (.iload_n 2, 1) := by decide +kernel
theorem dX12_drawn_44 : decode cX12_drawn 44 = .ok (.istore 5, 2) := by decide +kernel
theorem dX12_drawn_46 : decode cX12_drawn 46 = .ok (.iconst 0, 1) := by decide +kernel
theorem dX12_drawn_47 : decode cX12_drawn 47 = .ok (.istore 6, 2) := by decide +kernel
theorem dX12_drawn_49 : decode cX12_drawn 49 = .ok (.iload 6, 2) := by decide +kernel
theorem dX12_drawn_51 : decode cX12_drawn 51 = .ok (.iload_n 1, 1) := by decide +kernel
theorem dX12_drawn_52 : decode cX12_drawn 52 = .ok (.if_icmp .ge 42, 3) := by decide +kernel
theorem dX12_drawn_55 : decode cX12_drawn 55 = .ok (.iload 5, 2) := by decide +kernel
theorem dX12_drawn_57 : decode cX12_drawn 57 = .ok (.ldc 169, 2) := by decide +kernel
theorem dX12_drawn_59 : decode cX12_drawn 59 = .ok (.imul, 1) := by decide +kernel
theorem dX12_drawn_60 : decode cX12_drawn 60 = .ok (.sipush 12345, 3) := by decide +kernel
theorem dX12_drawn_63 : decode cX12_drawn 63 = .ok (.iadd, 1) := by decide +kernel
theorem dX12_drawn_64 : decode cX12_drawn 64 = .ok (.istore 5, 2) := by decide +kernel
theorem dX12_drawn_66 : decode cX12_drawn 66 = .ok (.aload_n 0, 1) := by decide +kernel
theorem dX12_drawn_67 : decode cX12_drawn 67 = .ok (.getfield 28, 3) := by decide +kernel
theorem dX12_drawn_70 : decode cX12_drawn 70 = .ok (.getfield 149, 3) := by decide +kernel
theorem dX12_drawn_73 : decode cX12_drawn 73 = .ok (.aload_n 3, 1) := by decide +kernel
theorem dX12_drawn_74 : decode cX12_drawn 74 = .ok (.iload 5, 2) := by decide +kernel
theorem dX12_drawn_76 : decode cX12_drawn 76 = .ok (.bipush 8, 2) := by decide +kernel
theorem dX12_drawn_78 : decode cX12_drawn 78 = .ok (.iushr, 1) := by decide +kernel
theorem dX12_drawn_79 : decode cX12_drawn 79 = .ok (.iload 4, 2) := by decide +kernel
theorem dX12_drawn_81 : decode cX12_drawn 81 = .ok (.irem, 1) := by decide +kernel
theorem dX12_drawn_82 : decode cX12_drawn 82 = .ok (.invokevirtual 170, 3) := by decide +kernel
theorem dX12_drawn_85 : decode cX12_drawn 85 = .ok (.invokevirtual 173, 3) := by decide +kernel
theorem dX12_drawn_88 : decode cX12_drawn 88 = .ok (.iinc 6 1, 3) := by decide +kernel
theorem dX12_drawn_91 : decode cX12_drawn 91 = .ok (.goto (-42), 3) := by decide +kernel
theorem dX12_drawn_94 : decode cX12_drawn 94 = .ok (.iload_n 1, 1) := by decide +kernel
theorem dX12_drawn_95 : decode cX12_drawn 95 = .ok (.ireturn, 1) := by decide +kernel
theorem dX12_left_0 : decode cX12_left 0 = .ok (.aload_n 0, 1) := by decide +kernel
theorem dX12_left_1 : decode cX12_left 1 = .ok (.iload_n 1, 1) := by decide +kernel
theorem dX12_left_2 : decode cX12_left 2 = .ok (.invokevirtual 176, 3) := by decide +kernel
theorem dX12_left_5 : decode cX12_left 5 = .ok (.ifCond .ne 5, 3) := by decide +kernel
theorem dX12_left_8 : decode cX12_left 8 = .ok (.iconst (-1), 1) := by decide +kernel
theorem dX12_left_9 : decode cX12_left 9 = .ok (.ireturn, 1) := by decide +kernel
theorem dX12_left_10 : decode cX12_left 10 = .ok (.aload_n 0, 1) := by decide +kernel
theorem dX12_left_11 : decode cX12_left 11 = .ok (.getfield 43, 3) := by decide +kernel
theorem dX12_left_14 : decode cX12_left 14 = .ok (.aload_n 0, 1) := by decide +kernel
theorem dX12_left_15 : decode cX12_left 15 = .ok (.getfield 28, 3) := by decide +kernel
theorem dX12_left_18 : decode cX12_left 18 = .ok (.iload_n 1, 1) := by decide +kernel
theorem dX12_left_19 : decode cX12_left 19 = .ok (.invokevirtual 179, 3) := by decide +kernel
theorem dX12_left_22 : decode cX12_left 22 = .ok (.getfield 74, 3) := by decide +kernel
theorem dX12_left_25 : decode cX12_left 25 = .ok (.ireturn, 1) := by decide +kernel
theorem dX12_leftAt_0 : decode cX12_leftAt 0 = .ok (.aload_n 0, 1) := by decide +kernel
theorem dX12_leftAt_1 : decode cX12_leftAt 1 = .ok (.iload_n 1, 1) := by decide +kernel
theorem dX12_leftAt_2 : decode cX12_leftAt 2 = .ok (.invokevirtual 176, 3) := by decide +kernel
theorem dX12_leftAt_5 : decode cX12_leftAt 5 = .ok (.ifCond .ne 5, 3) := by decide +kernel
theorem dX12_leftAt_8 : decode cX12_leftAt 8 = .ok (.iconst (-1), 1) := by decide +kernel
theorem dX12_leftAt_9 : decode cX12_leftAt 9 = .ok (.ireturn, 1) := by decide +kernel
theorem dX12_leftAt_10 : decode cX12_leftAt 10 = .ok (.aload_n 0, 1) := by decide +kernel
theorem dX12_leftAt_11 : decode cX12_leftAt 11 = .ok (.getfield 43, 3) := by decide +kernel
theorem dX12_leftAt_14 : decode cX12_leftAt 14 = .ok (.aload_n 0, 1) := by decide +kernel
theorem dX12_leftAt_15 : decode cX12_leftAt 15 = .ok (.getfield 28, 3) := by decide +kernel
theorem dX12_leftAt_18 : decode cX12_leftAt 18 = .ok (.iload_n 1, 1) := by decide +kernel
theorem dX12_leftAt_19 : decode cX12_leftAt 19 = .ok (.invokevirtual 179, 3) := by decide +kernel
theorem dX12_leftAt_22 : decode cX12_leftAt 22 = .ok (.iload_n 2, 1) := by decide +kernel
theorem dX12_leftAt_23 : decode cX12_leftAt 23 = .ok (.invokevirtual 183, 3) := by decide +kernel
theorem dX12_leftAt_26 : decode cX12_leftAt 26 = .ok (.ireturn, 1) := by decide +kernel
theorem dX12_means_0 : decode cX12_means 0 = .ok (.aload_n 0, 1) := by decide +kernel
theorem dX12_means_1 : decode cX12_means 1 = .ok (.iload_n 1, 1) := by decide +kernel
theorem dX12_means_2 : decode cX12_means 2 = .ok (.invokevirtual 176, 3) := by decide +kernel
theorem dX12_means_5 : decode cX12_means 5 = .ok (.ifCond .eq 28, 3) := by decide +kernel
theorem dX12_means_8 : decode cX12_means 8 = .ok (.aload_n 0, 1) := by decide +kernel
theorem dX12_means_9 : decode cX12_means 9 = .ok (.getfield 43, 3) := by decide +kernel
theorem dX12_means_12 : decode cX12_means 12 = .ok (.aload_n 0, 1) := by decide +kernel
theorem dX12_means_13 : decode cX12_means 13 = .ok (.getfield 28, 3) := by decide +kernel
theorem dX12_means_16 : decode cX12_means 16 = .ok (.getfield 95, 3) := by decide +kernel
theorem dX12_means_19 : decode cX12_means 19 = .ok (.aload_n 0, 1) := by decide +kernel
theorem dX12_means_20 : decode cX12_means 20 = .ok (.getfield 28, 3) := by decide +kernel
theorem dX12_means_23 : decode cX12_means 23 = .ok (.getfield 149, 3) := by decide +kernel
theorem dX12_means_26 : decode cX12_means 26 = .ok (.iload_n 1, 1) := by decide +kernel
theorem dX12_means_27 : decode cX12_means 27 = .ok (.invokevirtual 186, 3) := by decide +kernel
theorem dX12_means_30 : decode cX12_means 30 = .ok (.goto 4, 3) := by decide +kernel
theorem dX12_means_33 : decode cX12_means 33 = .ok (.iconst (-1), 1) := by decide +kernel
theorem dX12_means_34 : decode cX12_means 34 = .ok (.ireturn, 1) := by decide +kernel
theorem dX12_readings_0 : decode cX12_readings 0 = .ok (.aload_n 0, 1) := by decide +kernel
theorem dX12_readings_1 : decode cX12_readings 1 = .ok (.iload_n 1, 1) := by decide +kernel
theorem dX12_readings_2 : decode cX12_readings 2 = .ok (.invokevirtual 176, 3) := by decide +kernel
theorem dX12_readings_5 : decode cX12_readings 5 = .ok (.ifCond .eq 32, 3) := by decide +kernel
theorem dX12_readings_8 : decode cX12_readings 8 = .ok (.aload_n 0, 1) := by decide +kernel
theorem dX12_readings_9 : decode cX12_readings 9 = .ok (.getfield 43, 3) := by decide +kernel
theorem dX12_readings_12 : decode cX12_readings 12 = .ok (.aload_n 0, 1) := by decide +kernel
theorem dX12_readings_13 : decode cX12_readings 13 = .ok (.getfield 28, 3) := by decide +kernel
theorem dX12_readings_16 : decode cX12_readings 16 = .ok (.getfield 95, 3) := by decide +kernel
theorem dX12_readings_19 : decode cX12_readings 19 = .ok (.aload_n 0, 1) := by decide +kernel
theorem dX12_readings_20 : decode cX12_readings 20 = .ok (.getfield 43, 3) := by decide +kernel
theorem dX12_readings_23 : decode cX12_readings 23 = .ok (.aload_n 0, 1) := by decide +kernel
theorem dX12_readings_24 : decode cX12_readings 24 = .ok (.getfield 28, 3) := by decide +kernel
theorem dX12_readings_27 : decode cX12_readings 27 = .ok (.iload_n 1, 1) := by decide +kernel
theorem dX12_readings_28 : decode cX12_readings 28 = .ok (.invokevirtual 179, 3) := by decide +kernel
theorem dX12_readings_31 : decode cX12_readings 31 = .ok (.invokevirtual 190, 3) := by decide +kernel
theorem dX12_readings_34 : decode cX12_readings 34 = .ok (.goto 6, 3) := by decide +kernel
theorem dX12_readings_37 : decode cX12_readings 37 = .ok (.ldc2_w 194, 3) := by decide +kernel
theorem dX12_readings_40 : decode cX12_readings 40 = .ok (.lreturn, 1) := by decide +kernel
theorem dX12_sortAt_0 : decode cX12_sortAt 0 = .ok (.aload_n 0, 1) := by decide +kernel
theorem dX12_sortAt_1 : decode cX12_sortAt 1 = .ok (.iload_n 1, 1) := by decide +kernel
theorem dX12_sortAt_2 : decode cX12_sortAt 2 = .ok (.invokevirtual 176, 3) := by decide +kernel
theorem dX12_sortAt_5 : decode cX12_sortAt 5 = .ok (.ifCond .ne 5, 3) := by decide +kernel
theorem dX12_sortAt_8 : decode cX12_sortAt 8 = .ok (.iconst (-1), 1) := by decide +kernel
theorem dX12_sortAt_9 : decode cX12_sortAt 9 = .ok (.ireturn, 1) := by decide +kernel
theorem dX12_sortAt_10 : decode cX12_sortAt 10 = .ok (.aload_n 0, 1) := by decide +kernel
theorem dX12_sortAt_11 : decode cX12_sortAt 11 = .ok (.getfield 43, 3) := by decide +kernel
theorem dX12_sortAt_14 : decode cX12_sortAt 14 = .ok (.aload_n 0, 1) := by decide +kernel
theorem dX12_sortAt_15 : decode cX12_sortAt 15 = .ok (.getfield 28, 3) := by decide +kernel
theorem dX12_sortAt_18 : decode cX12_sortAt 18 = .ok (.iload_n 1, 1) := by decide +kernel
theorem dX12_sortAt_19 : decode cX12_sortAt 19 = .ok (.invokevirtual 179, 3) := by decide +kernel
theorem dX12_sortAt_22 : decode cX12_sortAt 22 = .ok (.astore_n 3, 1) := by decide +kernel
theorem dX12_sortAt_23 : decode cX12_sortAt 23 = .ok (.iload_n 2, 1) := by decide +kernel
theorem dX12_sortAt_24 : decode cX12_sortAt 24 = .ok (.ifCond .lt 29, 3) := by decide +kernel
theorem dX12_sortAt_27 : decode cX12_sortAt 27 = .ok (.iload_n 2, 1) := by decide +kernel
theorem dX12_sortAt_28 : decode cX12_sortAt 28 = .ok (.aload_n 3, 1) := by decide +kernel
theorem dX12_sortAt_29 : decode cX12_sortAt 29 = .ok (.getfield 74, 3) := by decide +kernel
theorem dX12_sortAt_32 : decode cX12_sortAt 32 = .ok (.if_icmp .ge 21, 3) := by decide +kernel
theorem dX12_sortAt_35 : decode cX12_sortAt 35 = .ok (.aload_n 0, 1) := by decide +kernel
theorem dX12_sortAt_36 : decode cX12_sortAt 36 = .ok (.getfield 43, 3) := by decide +kernel
theorem dX12_sortAt_39 : decode cX12_sortAt 39 = .ok (.aload_n 0, 1) := by decide +kernel
theorem dX12_sortAt_40 : decode cX12_sortAt 40 = .ok (.getfield 28, 3) := by decide +kernel
theorem dX12_sortAt_43 : decode cX12_sortAt 43 = .ok (.getfield 95, 3) := by decide +kernel
theorem dX12_sortAt_46 : decode cX12_sortAt 46 = .ok (.aload_n 3, 1) := by decide +kernel
theorem dX12_sortAt_47 : decode cX12_sortAt 47 = .ok (.invokevirtual 196, 3) := by decide +kernel
theorem dX12_sortAt_50 : decode cX12_sortAt 50 = .ok (.ifCond .ne 5, 3) := by decide +kernel
theorem dX12_sortAt_53 : decode cX12_sortAt 53 = .ok (.iconst (-1), 1) := by decide +kernel
theorem dX12_sortAt_54 : decode cX12_sortAt 54 = .ok (.ireturn, 1) := by decide +kernel
theorem dX12_sortAt_55 : decode cX12_sortAt 55 = .ok (.aload_n 0, 1) := by decide +kernel
theorem dX12_sortAt_56 : decode cX12_sortAt 56 = .ok (.getfield 43, 3) := by decide +kernel
theorem dX12_sortAt_59 : decode cX12_sortAt 59 = .ok (.iload_n 2, 1) := by decide +kernel
theorem dX12_sortAt_60 : decode cX12_sortAt 60 = .ok (.invokevirtual 200, 3) := by decide +kernel
theorem dX12_sortAt_63 : decode cX12_sortAt 63 = .ok (.ireturn, 1) := by decide +kernel
theorem dX12_turns_0 : decode cX12_turns 0 = .ok (.aload_n 0, 1) := by decide +kernel
theorem dX12_turns_1 : decode cX12_turns 1 = .ok (.getfield 43, 3) := by decide +kernel
theorem dX12_turns_4 : decode cX12_turns 4 = .ok (.aload_n 0, 1) := by decide +kernel
theorem dX12_turns_5 : decode cX12_turns 5 = .ok (.getfield 28, 3) := by decide +kernel
theorem dX12_turns_8 : decode cX12_turns 8 = .ok (.getfield 95, 3) := by decide +kernel
theorem dX12_turns_11 : decode cX12_turns 11 = .ok (.aload_n 0, 1) := by decide +kernel
theorem dX12_turns_12 : decode cX12_turns 12 = .ok (.getfield 28, 3) := by decide +kernel
theorem dX12_turns_15 : decode cX12_turns 15 = .ok (.getfield 149, 3) := by decide +kernel
theorem dX12_turns_18 : decode cX12_turns 18 = .ok (.invokevirtual 203, 3) := by decide +kernel
theorem dX12_turns_21 : decode cX12_turns 21 = .ok (.ireturn, 1) := by decide +kernel
theorem dX12_against_0 : decode cX12_against 0 = .ok (.iload_n 1, 1) := by decide +kernel
theorem dX12_against_1 : decode cX12_against 1 = .ok (.ifCond .lt 17, 3) := by decide +kernel
theorem dX12_against_4 : decode cX12_against 4 = .ok (.iload_n 1, 1) := by decide +kernel
theorem dX12_against_5 : decode cX12_against 5 = .ok (.aload_n 0, 1) := by decide +kernel
theorem dX12_against_6 : decode cX12_against 6 = .ok (.getfield 28, 3) := by decide +kernel
theorem dX12_against_9 : decode cX12_against 9 = .ok (.getfield 95, 3) := by decide +kernel
theorem dX12_against_12 : decode cX12_against 12 = .ok (.getfield 207, 3) := by decide +kernel
theorem dX12_against_15 : decode cX12_against 15 = .ok (.if_icmp .lt 5, 3) := by decide +kernel
theorem dX12_against_18 : decode cX12_against 18 = .ok (.iconst (-1), 1) := by decide +kernel
theorem dX12_against_19 : decode cX12_against 19 = .ok (.ireturn, 1) := by decide +kernel
theorem dX12_against_20 : decode cX12_against 20 = .ok (.aload_n 0, 1) := by decide +kernel
theorem dX12_against_21 : decode cX12_against 21 = .ok (.getfield 43, 3) := by decide +kernel
theorem dX12_against_24 : decode cX12_against 24 = .ok (.aload_n 0, 1) := by decide +kernel
theorem dX12_against_25 : decode cX12_against 25 = .ok (.getfield 28, 3) := by decide +kernel
theorem dX12_against_28 : decode cX12_against 28 = .ok (.getfield 95, 3) := by decide +kernel
theorem dX12_against_31 : decode cX12_against 31 = .ok (.aload_n 0, 1) := by decide +kernel
theorem dX12_against_32 : decode cX12_against 32 = .ok (.getfield 28, 3) := by decide +kernel
theorem dX12_against_35 : decode cX12_against 35 = .ok (.getfield 149, 3) := by decide +kernel
theorem dX12_against_38 : decode cX12_against 38 = .ok (.iconst 0, 1) := by decide +kernel
theorem dX12_against_39 : decode cX12_against 39 = .ok (.invokevirtual 186, 3) := by decide +kernel
theorem dX12_against_42 : decode cX12_against 42 = .ok (.istore_n 2, 1) := by decide +kernel
theorem dX12_against_43 : decode cX12_against 43 = .ok (.iconst 0, 1) := by decide +kernel
theorem dX12_against_44 : decode cX12_against 44 = .ok (.istore_n 3, 1) := by decide +kernel
theorem dX12_against_45 : decode cX12_against 45 = .ok (.iconst 1, 1) := by decide +kernel
theorem dX12_against_46 : decode cX12_against 46 = .ok (.istore 4, 2) := by decide +kernel
theorem dX12_against_48 : decode cX12_against 48 = .ok (.iload 4, 2) := by decide +kernel
theorem dX12_against_50 : decode cX12_against 50 = .ok (.aload_n 0, 1) := by decide +kernel
theorem dX12_against_51 : decode cX12_against 51 = .ok (.getfield 28, 3) := by decide +kernel
theorem dX12_against_54 : decode cX12_against 54 = .ok (.getfield 95, 3) := by decide +kernel
theorem dX12_against_57 : decode cX12_against 57 = .ok (.getfield 210, 3) := by decide +kernel
theorem dX12_against_60 : decode cX12_against 60 = .ok (.getfield 214, 3) := by decide +kernel
theorem dX12_against_63 : decode cX12_against 63 = .ok (.if_icmp .gt 47, 3) := by decide +kernel
theorem dX12_against_66 : decode cX12_against 66 = .ok (.iload_n 2, 1) := by decide +kernel
theorem dX12_against_67 : decode cX12_against 67 = .ok (.aload_n 0, 1) := by decide +kernel
theorem dX12_against_68 : decode cX12_against 68 = .ok (.getfield 43, 3) := by decide +kernel
theorem dX12_against_71 : decode cX12_against 71 = .ok (.aload_n 0, 1) := by decide +kernel
theorem dX12_against_72 : decode cX12_against 72 = .ok (.getfield 28, 3) := by decide +kernel
theorem dX12_against_75 : decode cX12_against 75 = .ok (.getfield 95, 3) := by decide +kernel
theorem dX12_against_78 : decode cX12_against 78 = .ok (.aload_n 0, 1) := by decide +kernel
theorem dX12_against_79 : decode cX12_against 79 = .ok (.getfield 28, 3) := by decide +kernel
theorem dX12_against_82 : decode cX12_against 82 = .ok (.getfield 149, 3) := by decide +kernel
theorem dX12_against_85 : decode cX12_against 85 = .ok (.iload 4, 2) := by decide +kernel
theorem dX12_against_87 : decode cX12_against 87 = .ok (.invokevirtual 186, 3) := by decide +kernel
theorem dX12_against_90 : decode cX12_against 90 = .ok (.iload_n 1, 1) := by decide +kernel
theorem dX12_against_91 : decode cX12_against 91 = .ok (.invokestatic 219, 3) := by decide +kernel
theorem dX12_against_94 : decode cX12_against 94 = .ok (.ifCond .eq 10, 3) := by decide +kernel
theorem dX12_against_97 : decode cX12_against 97 = .ok (.iload_n 3, 1) := by decide +kernel
theorem dX12_against_98 : decode cX12_against 98 = .ok (.iconst 1, 1) := by decide +kernel
theorem dX12_against_99 : decode cX12_against 99 = .ok (.iload 4, 2) := by decide +kernel
theorem dX12_against_101 : decode cX12_against 101 = .ok (.ishl, 1) := by decide +kernel
theorem dX12_against_102 : decode cX12_against 102 = .ok (.ior, 1) := by decide +kernel
theorem dX12_against_103 : decode cX12_against 103 = .ok (.istore_n 3, 1) := by decide +kernel
theorem dX12_against_104 : decode cX12_against 104 = .ok (.iinc 4 1, 3) := by decide +kernel
theorem dX12_against_107 : decode cX12_against 107 = .ok (.goto (-59), 3) := by decide +kernel
theorem dX12_against_110 : decode cX12_against 110 = .ok (.iload_n 3, 1) := by decide +kernel
theorem dX12_against_111 : decode cX12_against 111 = .ok (.ireturn, 1) := by decide +kernel
theorem dX12_twice_0 : decode cX12_twice 0 = .ok (.aload_n 0, 1) := by decide +kernel
theorem dX12_twice_1 : decode cX12_twice 1 = .ok (.iload_n 1, 1) := by decide +kernel
theorem dX12_twice_2 : decode cX12_twice 2 = .ok (.invokevirtual 223, 3) := by decide +kernel
theorem dX12_twice_5 : decode cX12_twice 5 = .ok (.ifCond .eq 11, 3) := by decide +kernel
theorem dX12_twice_8 : decode cX12_twice 8 = .ok (.aload_n 0, 1) := by decide +kernel
theorem dX12_twice_9 : decode cX12_twice 9 = .ok (.iload_n 2, 1) := by decide +kernel
theorem dX12_twice_10 : decode cX12_twice 10 = .ok (.invokevirtual 223, 3) := by decide +kernel
theorem dX12_twice_13 : decode cX12_twice 13 = .ok (.ifCond .ne 5, 3) := by decide +kernel
theorem dX12_twice_16 : decode cX12_twice 16 = .ok (.iconst (-1), 1) := by decide +kernel
theorem dX12_twice_17 : decode cX12_twice 17 = .ok (.ireturn, 1) := by decide +kernel
theorem dX12_twice_18 : decode cX12_twice 18 = .ok (.aload_n 0, 1) := by decide +kernel
theorem dX12_twice_19 : decode cX12_twice 19 = .ok (.getfield 43, 3) := by decide +kernel
theorem dX12_twice_22 : decode cX12_twice 22 = .ok (.aload_n 0, 1) := by decide +kernel
theorem dX12_twice_23 : decode cX12_twice 23 = .ok (.getfield 28, 3) := by decide +kernel
theorem dX12_twice_26 : decode cX12_twice 26 = .ok (.getfield 95, 3) := by decide +kernel
theorem dX12_twice_29 : decode cX12_twice 29 = .ok (.aload_n 0, 1) := by decide +kernel
theorem dX12_twice_30 : decode cX12_twice 30 = .ok (.getfield 43, 3) := by decide +kernel
theorem dX12_twice_33 : decode cX12_twice 33 = .ok (.aload_n 0, 1) := by decide +kernel
theorem dX12_twice_34 : decode cX12_twice 34 = .ok (.getfield 28, 3) := by decide +kernel
theorem dX12_twice_37 : decode cX12_twice 37 = .ok (.iload_n 1, 1) := by decide +kernel
theorem dX12_twice_38 : decode cX12_twice 38 = .ok (.invokevirtual 179, 3) := by decide +kernel
theorem dX12_twice_41 : decode cX12_twice 41 = .ok (.iload_n 2, 1) := by decide +kernel
theorem dX12_twice_42 : decode cX12_twice 42 = .ok (.invokevirtual 186, 3) := by decide +kernel
theorem dX12_twice_45 : decode cX12_twice 45 = .ok (.ireturn, 1) := by decide +kernel
theorem dX12_standIn_0 : decode cX12_standIn 0 = .ok (.iload_n 1, 1) := by decide +kernel
theorem dX12_standIn_1 : decode cX12_standIn 1 = .ok (.ifCond .lt 17, 3) := by decide +kernel
theorem dX12_standIn_4 : decode cX12_standIn 4 = .ok (.iload_n 1, 1) := by decide +kernel
theorem dX12_standIn_5 : decode cX12_standIn 5 = .ok (.aload_n 0, 1) := by decide +kernel
theorem dX12_standIn_6 : decode cX12_standIn 6 = .ok (.getfield 28, 3) := by decide +kernel
theorem dX12_standIn_9 : decode cX12_standIn 9 = .ok (.getfield 149, 3) := by decide +kernel
theorem dX12_standIn_12 : decode cX12_standIn 12 = .ok (.getfield 74, 3) := by decide +kernel
theorem dX12_standIn_15 : decode cX12_standIn 15 = .ok (.if_icmp .lt 5, 3) := by decide +kernel
theorem dX12_standIn_18 : decode cX12_standIn 18 = .ok (.iconst (-1), 1) := by decide +kernel
theorem dX12_standIn_19 : decode cX12_standIn 19 = .ok (.ireturn, 1) := by decide +kernel
theorem dX12_standIn_20 : decode cX12_standIn 20 = .ok (.aload_n 0, 1) := by decide +kernel
theorem dX12_standIn_21 : decode cX12_standIn 21 = .ok (.getfield 71, 3) := by decide +kernel
theorem dX12_standIn_24 : decode cX12_standIn 24 = .ok (.aload_n 0, 1) := by decide +kernel
theorem dX12_standIn_25 : decode cX12_standIn 25 = .ok (.getfield 28, 3) := by decide +kernel
theorem dX12_standIn_28 : decode cX12_standIn 28 = .ok (.getfield 149, 3) := by decide +kernel
theorem dX12_standIn_31 : decode cX12_standIn 31 = .ok (.invokevirtual 152, 3) := by decide +kernel
theorem dX12_standIn_34 : decode cX12_standIn 34 = .ok (.iconst 0, 1) := by decide +kernel
theorem dX12_standIn_35 : decode cX12_standIn 35 = .ok (.istore_n 2, 1) := by decide +kernel
theorem dX12_standIn_36 : decode cX12_standIn 36 = .ok (.iconst 0, 1) := by decide +kernel
theorem dX12_standIn_37 : decode cX12_standIn 37 = .ok (.istore_n 3, 1) := by decide +kernel
theorem dX12_standIn_38 : decode cX12_standIn 38 = .ok (.iload_n 3, 1) := by decide +kernel
theorem dX12_standIn_39 : decode cX12_standIn 39 = .ok (.aload_n 0, 1) := by decide +kernel
theorem dX12_standIn_40 : decode cX12_standIn 40 = .ok (.getfield 28, 3) := by decide +kernel
theorem dX12_standIn_43 : decode cX12_standIn 43 = .ok (.getfield 95, 3) := by decide +kernel
theorem dX12_standIn_46 : decode cX12_standIn 46 = .ok (.getfield 159, 3) := by decide +kernel
theorem dX12_standIn_49 : decode cX12_standIn 49 = .ok (.if_icmp .ge 53, 3) := by decide +kernel
theorem dX12_standIn_52 : decode cX12_standIn 52 = .ok (.aload_n 0, 1) := by decide +kernel
theorem dX12_standIn_53 : decode cX12_standIn 53 = .ok (.getfield 71, 3) := by decide +kernel
theorem dX12_standIn_56 : decode cX12_standIn 56 = .ok (.getfield 226, 3) := by decide +kernel
theorem dX12_standIn_59 : decode cX12_standIn 59 = .ok (.iload_n 1, 1) := by decide +kernel
theorem dX12_standIn_60 : decode cX12_standIn 60 = .ok (.iload_n 3, 1) := by decide +kernel
theorem dX12_standIn_61 : decode cX12_standIn 61 = .ok (.iastore, 1) := by decide +kernel
theorem dX12_standIn_62 : decode cX12_standIn 62 = .ok (.aload_n 0, 1) := by decide +kernel
theorem dX12_standIn_63 : decode cX12_standIn 63 = .ok (.getfield 43, 3) := by decide +kernel
theorem dX12_standIn_66 : decode cX12_standIn 66 = .ok (.aload_n 0, 1) := by decide +kernel
theorem dX12_standIn_67 : decode cX12_standIn 67 = .ok (.getfield 28, 3) := by decide +kernel
theorem dX12_standIn_70 : decode cX12_standIn 70 = .ok (.getfield 95, 3) := by decide +kernel
theorem dX12_standIn_73 : decode cX12_standIn 73 = .ok (.aload_n 0, 1) := by decide +kernel
theorem dX12_standIn_74 : decode cX12_standIn 74 = .ok (.getfield 28, 3) := by decide +kernel
theorem dX12_standIn_77 : decode cX12_standIn 77 = .ok (.getfield 149, 3) := by decide +kernel
theorem dX12_standIn_80 : decode cX12_standIn 80 = .ok (.aload_n 0, 1) := by decide +kernel
theorem dX12_standIn_81 : decode cX12_standIn 81 = .ok (.getfield 71, 3) := by decide +kernel
theorem dX12_standIn_84 : decode cX12_standIn 84 = .ok (.invokevirtual 229, 3) := by decide +kernel
theorem dX12_standIn_87 : decode cX12_standIn 87 = .ok (.ifCond .eq 9, 3) := by decide +kernel
theorem dX12_standIn_90 : decode cX12_standIn 90 = .ok (.iload_n 2, 1) := by decide +kernel
theorem dX12_standIn_91 : decode cX12_standIn 91 = .ok (.iconst 1, 1) := by decide +kernel
theorem dX12_standIn_92 : decode cX12_standIn 92 = .ok (.iload_n 3, 1) := by decide +kernel
theorem dX12_standIn_93 : decode cX12_standIn 93 = .ok (.ishl, 1) := by decide +kernel
theorem dX12_standIn_94 : decode cX12_standIn 94 = .ok (.ior, 1) := by decide +kernel
theorem dX12_standIn_95 : decode cX12_standIn 95 = .ok (.istore_n 2, 1) := by decide +kernel
theorem dX12_standIn_96 : decode cX12_standIn 96 = .ok (.iinc 3 1, 3) := by decide +kernel
theorem dX12_standIn_99 : decode cX12_standIn 99 = .ok (.goto (-61), 3) := by decide +kernel
theorem dX12_standIn_102 : decode cX12_standIn 102 = .ok (.iload_n 2, 1) := by decide +kernel
theorem dX12_standIn_103 : decode cX12_standIn 103 = .ok (.ireturn, 1) := by decide +kernel
theorem dX12_safe_0 : decode cX12_safe 0 = .ok (.aload_n 0, 1) := by decide +kernel
theorem dX12_safe_1 : decode cX12_safe 1 = .ok (.getfield 43, 3) := by decide +kernel
theorem dX12_safe_4 : decode cX12_safe 4 = .ok (.aload_n 0, 1) := by decide +kernel
theorem dX12_safe_5 : decode cX12_safe 5 = .ok (.getfield 28, 3) := by decide +kernel
theorem dX12_safe_8 : decode cX12_safe 8 = .ok (.getfield 95, 3) := by decide +kernel
theorem dX12_safe_11 : decode cX12_safe 11 = .ok (.aload_n 0, 1) := by decide +kernel
theorem dX12_safe_12 : decode cX12_safe 12 = .ok (.getfield 28, 3) := by decide +kernel
theorem dX12_safe_15 : decode cX12_safe 15 = .ok (.getfield 149, 3) := by decide +kernel
theorem dX12_safe_18 : decode cX12_safe 18 = .ok (.iconst 1, 1) := by decide +kernel
theorem dX12_safe_19 : decode cX12_safe 19 = .ok (.invokevirtual 186, 3) := by decide +kernel
theorem dX12_safe_22 : decode cX12_safe 22 = .ok (.istore_n 1, 1) := by decide +kernel
theorem dX12_safe_23 : decode cX12_safe 23 = .ok (.iconst 2, 1) := by decide +kernel
theorem dX12_safe_24 : decode cX12_safe 24 = .ok (.istore_n 2, 1) := by decide +kernel
theorem dX12_safe_25 : decode cX12_safe 25 = .ok (.iload_n 2, 1) := by decide +kernel
theorem dX12_safe_26 : decode cX12_safe 26 = .ok (.aload_n 0, 1) := by decide +kernel
theorem dX12_safe_27 : decode cX12_safe 27 = .ok (.getfield 28, 3) := by decide +kernel
theorem dX12_safe_30 : decode cX12_safe 30 = .ok (.getfield 95, 3) := by decide +kernel
theorem dX12_safe_33 : decode cX12_safe 33 = .ok (.getfield 210, 3) := by decide +kernel
theorem dX12_safe_36 : decode cX12_safe 36 = .ok (.getfield 214, 3) := by decide +kernel
theorem dX12_safe_39 : decode cX12_safe 39 = .ok (.if_icmp .gt 37, 3) := by decide +kernel
theorem dX12_safe_42 : decode cX12_safe 42 = .ok (.aload_n 0, 1) := by decide +kernel
theorem dX12_safe_43 : decode cX12_safe 43 = .ok (.getfield 43, 3) := by decide +kernel
theorem dX12_safe_46 : decode cX12_safe 46 = .ok (.aload_n 0, 1) := by decide +kernel
theorem dX12_safe_47 : decode cX12_safe 47 = .ok (.getfield 28, 3) := by decide +kernel
theorem dX12_safe_50 : decode cX12_safe 50 = .ok (.getfield 95, 3) := by decide +kernel
theorem dX12_safe_53 : decode cX12_safe 53 = .ok (.aload_n 0, 1) := by decide +kernel
theorem dX12_safe_54 : decode cX12_safe 54 = .ok (.getfield 28, 3) := by decide +kernel
theorem dX12_safe_57 : decode cX12_safe 57 = .ok (.getfield 149, 3) := by decide +kernel
theorem dX12_safe_60 : decode cX12_safe 60 = .ok (.iload_n 2, 1) := by decide +kernel
theorem dX12_safe_61 : decode cX12_safe 61 = .ok (.invokevirtual 186, 3) := by decide +kernel
theorem dX12_safe_64 : decode cX12_safe 64 = .ok (.iload_n 1, 1) := by decide +kernel
theorem dX12_safe_65 : decode cX12_safe 65 = .ok (.if_icmp .eq 5, 3) := by decide +kernel
theorem dX12_safe_68 : decode cX12_safe 68 = .ok (.iconst (-1), 1) := by decide +kernel
theorem dX12_safe_69 : decode cX12_safe 69 = .ok (.ireturn, 1) := by decide +kernel
theorem dX12_safe_70 : decode cX12_safe 70 = .ok (.iinc 2 1, 3) := by decide +kernel
theorem dX12_safe_73 : decode cX12_safe 73 = .ok (.goto (-48), 3) := by decide +kernel
theorem dX12_safe_76 : decode cX12_safe 76 = .ok (.iload_n 1, 1) := by decide +kernel
theorem dX12_safe_77 : decode cX12_safe 77 = .ok (.invokestatic 125, 3) := by decide +kernel
theorem dX12_safe_80 : decode cX12_safe 80 = .ok (.iconst 1, 1) := by decide +kernel
theorem dX12_safe_81 : decode cX12_safe 81 = .ok (.if_icmp .ne 12, 3) := by decide +kernel
theorem dX12_safe_84 : decode cX12_safe 84 = .ok (.iload_n 1, 1) := by decide +kernel
theorem dX12_safe_85 : decode cX12_safe 85 = .ok (.iconst 1, 1) := by decide +kernel
theorem dX12_safe_86 : decode cX12_safe 86 = .ok (.isub, 1) := by decide +kernel
theorem dX12_safe_87 : decode cX12_safe 87 = .ok (.invokestatic 125, 3) := by decide +kernel
theorem dX12_safe_90 : decode cX12_safe 90 = .ok (.goto 4, 3) := by decide +kernel
theorem dX12_safe_93 : decode cX12_safe 93 = .ok (.iconst (-1), 1) := by decide +kernel
theorem dX12_safe_94 : decode cX12_safe 94 = .ok (.ireturn, 1) := by decide +kernel
theorem dX12_known_0 : decode cX12_known 0 = .ok (.iload_n 1, 1) := by decide +kernel
theorem dX12_known_1 : decode cX12_known 1 = .ok (.invokestatic 131, 3) := by decide +kernel
theorem dX12_known_4 : decode cX12_known 4 = .ok (.ifCond .eq 12, 3) := by decide +kernel
theorem dX12_known_7 : decode cX12_known 7 = .ok (.iload_n 2, 1) := by decide +kernel
theorem dX12_known_8 : decode cX12_known 8 = .ok (.ifCond .lt 8, 3) := by decide +kernel
theorem dX12_known_11 : decode cX12_known 11 = .ok (.iload_n 2, 1) := by decide +kernel
theorem dX12_known_12 : decode cX12_known 12 = .ok (.iconst 1, 1) := by decide +kernel
theorem dX12_known_13 : decode cX12_known 13 = .ok (.if_icmp .le 13, 3) := by decide +kernel
theorem dX12_known_16 : decode cX12_known 16 = .ok (.new 102, 3) := by decide +kernel
theorem dX12_known_19 : decode cX12_known 19 = .ok (.dup, 1) := by decide +kernel
theorem dX12_known_20 : decode cX12_known 20 = .ok (.ldc 233, 2) := by decide +kernel
theorem dX12_known_22 : decode cX12_known 22 = .ok (.invokespecial 106, 3) := by decide +kernel
theorem dX12_known_25 : decode cX12_known 25 = .ok (.athrow, 1) := by decide +kernel
theorem dX12_known_26 : decode cX12_known 26 = .ok (.iconst 0, 1) := by decide +kernel
theorem dX12_known_27 : decode cX12_known 27 = .ok (.istore_n 3, 1) := by decide +kernel
theorem dX12_known_28 : decode cX12_known 28 = .ok (.iconst 0, 1) := by decide +kernel
theorem dX12_known_29 : decode cX12_known 29 = .ok (.istore 4, 2) := by decide +kernel
theorem dX12_known_31 : decode cX12_known 31 = .ok (.iconst 1, 1) := by decide +kernel
theorem dX12_known_32 : decode cX12_known 32 = .ok (.istore 5, 2) := by decide +kernel
theorem dX12_known_34 : decode cX12_known 34 = .ok (.iload 5, 2) := by decide +kernel
theorem dX12_known_36 : decode cX12_known 36 = .ok (.aload_n 0, 1) := by decide +kernel
theorem dX12_known_37 : decode cX12_known 37 = .ok (.getfield 28, 3) := by decide +kernel
theorem dX12_known_40 : decode cX12_known 40 = .ok (.getfield 95, 3) := by decide +kernel
theorem dX12_known_43 : decode cX12_known 43 = .ok (.getfield 210, 3) := by decide +kernel
theorem dX12_known_46 : decode cX12_known 46 = .ok (.getfield 214, 3) := by decide +kernel
theorem dX12_known_49 : decode cX12_known 49 = .ok (.if_icmp .gt 72, 3) := by decide +kernel
theorem dX12_known_52 : decode cX12_known 52 = .ok (.iload 4, 2) := by decide +kernel
theorem dX12_known_54 : decode cX12_known 54 = .ok (.aload_n 0, 1) := by decide +kernel
theorem dX12_known_55 : decode cX12_known 55 = .ok (.getfield 28, 3) := by decide +kernel
theorem dX12_known_58 : decode cX12_known 58 = .ok (.getfield 95, 3) := by decide +kernel
theorem dX12_known_61 : decode cX12_known 61 = .ok (.getfield 235, 3) := by decide +kernel
theorem dX12_known_64 : decode cX12_known 64 = .ok (.iload 5, 2) := by decide +kernel
theorem dX12_known_66 : decode cX12_known 66 = .ok (.iaload, 1) := by decide +kernel
theorem dX12_known_67 : decode cX12_known 67 = .ok (.iadd, 1) := by decide +kernel
theorem dX12_known_68 : decode cX12_known 68 = .ok (.istore 4, 2) := by decide +kernel
theorem dX12_known_70 : decode cX12_known 70 = .ok (.aload_n 0, 1) := by decide +kernel
theorem dX12_known_71 : decode cX12_known 71 = .ok (.getfield 43, 3) := by decide +kernel
theorem dX12_known_74 : decode cX12_known 74 = .ok (.aload_n 0, 1) := by decide +kernel
theorem dX12_known_75 : decode cX12_known 75 = .ok (.getfield 28, 3) := by decide +kernel
theorem dX12_known_78 : decode cX12_known 78 = .ok (.getfield 95, 3) := by decide +kernel
theorem dX12_known_81 : decode cX12_known 81 = .ok (.aload_n 0, 1) := by decide +kernel
theorem dX12_known_82 : decode cX12_known 82 = .ok (.getfield 28, 3) := by decide +kernel
theorem dX12_known_85 : decode cX12_known 85 = .ok (.getfield 149, 3) := by decide +kernel
theorem dX12_known_88 : decode cX12_known 88 = .ok (.iload 5, 2) := by decide +kernel
theorem dX12_known_90 : decode cX12_known 90 = .ok (.invokevirtual 186, 3) := by decide +kernel
theorem dX12_known_93 : decode cX12_known 93 = .ok (.iconst 1, 1) := by decide +kernel
theorem dX12_known_94 : decode cX12_known 94 = .ok (.iload_n 1, 1) := by decide +kernel
theorem dX12_known_95 : decode cX12_known 95 = .ok (.ishl, 1) := by decide +kernel
theorem dX12_known_96 : decode cX12_known 96 = .ok (.if_icmp .ne 19, 3) := by decide +kernel
theorem dX12_known_99 : decode cX12_known 99 = .ok (.iload_n 3, 1) := by decide +kernel
theorem dX12_known_100 : decode cX12_known 100 = .ok (.aload_n 0, 1) := by decide +kernel
theorem dX12_known_101 : decode cX12_known 101 = .ok (.getfield 28, 3) := by decide +kernel
theorem dX12_known_104 : decode cX12_known 104 = .ok (.getfield 95, 3) := by decide +kernel
theorem dX12_known_107 : decode cX12_known 107 = .ok (.getfield 235, 3) := by decide +kernel
theorem dX12_known_110 : decode cX12_known 110 = .ok (.iload 5, 2) := by decide +kernel
theorem dX12_known_112 : decode cX12_known 112 = .ok (.iaload, 1) := by decide +kernel
theorem dX12_known_113 : decode cX12_known 113 = .ok (.iadd, 1) := by decide +kernel
theorem dX12_known_114 : decode cX12_known 114 = .ok (.istore_n 3, 1) := by decide +kernel
theorem dX12_known_115 : decode cX12_known 115 = .ok (.iinc 5 1, 3) := by decide +kernel
theorem dX12_known_118 : decode cX12_known 118 = .ok (.goto (-84), 3) := by decide +kernel
theorem dX12_known_121 : decode cX12_known 121 = .ok (.iload 4, 2) := by decide +kernel
theorem dX12_known_123 : decode cX12_known 123 = .ok (.ifCond .ne 5, 3) := by decide +kernel
theorem dX12_known_126 : decode cX12_known 126 = .ok (.iload_n 2, 1) := by decide +kernel
theorem dX12_known_127 : decode cX12_known 127 = .ok (.ireturn, 1) := by decide +kernel
theorem dX12_known_128 : decode cX12_known 128 = .ok (.iload_n 2, 1) := by decide +kernel
theorem dX12_known_129 : decode cX12_known 129 = .ok (.ifCond .ne 7, 3) := by decide +kernel
theorem dX12_known_132 : decode cX12_known 132 = .ok (.iload_n 3, 1) := by decide +kernel
theorem dX12_known_133 : decode cX12_known 133 = .ok (.goto 5, 3) := by decide +kernel
theorem dX12_known_136 : decode cX12_known 136 = .ok (.iload 4, 2) := by decide +kernel
theorem dX12_known_138 : decode cX12_known 138 = .ok (.iload_n 3, 1) := by decide +kernel
theorem dX12_known_139 : decode cX12_known 139 = .ok (.iload 4, 2) := by decide +kernel
theorem dX12_known_141 : decode cX12_known 141 = .ok (.invokestatic 238, 3) := by decide +kernel
theorem dX12_known_144 : decode cX12_known 144 = .ok (.ireturn, 1) := by decide +kernel
theorem dX12_scans_0 : decode cX12_scans 0 = .ok (.iload_n 1, 1) := by decide +kernel
theorem dX12_scans_1 : decode cX12_scans 1 = .ok (.ifCond .lt 10, 3) := by decide +kernel
theorem dX12_scans_4 : decode cX12_scans 4 = .ok (.iload_n 1, 1) := by decide +kernel
theorem dX12_scans_5 : decode cX12_scans 5 = .ok (.sipush 216, 3) := by decide +kernel
theorem dX12_scans_8 : decode cX12_scans 8 = .ok (.if_icmp .le 5, 3) := by decide +kernel
theorem dX12_scans_11 : decode cX12_scans 11 = .ok (.iconst (-1), 1) := by decide +kernel
theorem dX12_scans_12 : decode cX12_scans 12 = .ok (.ireturn, 1) := by decide +kernel
theorem dX12_scans_13 : decode cX12_scans 13 = .ok (.iconst 0, 1) := by decide +kernel
theorem dX12_scans_14 : decode cX12_scans 14 = .ok (.istore_n 2, 1) := by decide +kernel
theorem dX12_scans_15 : decode cX12_scans 15 = .ok (.iconst 0, 1) := by decide +kernel
theorem dX12_scans_16 : decode cX12_scans 16 = .ok (.istore_n 3, 1) := by decide +kernel
theorem dX12_scans_17 : decode cX12_scans 17 = .ok (.iload_n 3, 1) := by decide +kernel
theorem dX12_scans_18 : decode cX12_scans 18 = .ok (.aload_n 0, 1) := by decide +kernel
theorem dX12_scans_19 : decode cX12_scans 19 = .ok (.getfield 28, 3) := by decide +kernel
theorem dX12_scans_22 : decode cX12_scans 22 = .ok (.getfield 95, 3) := by decide +kernel
theorem dX12_scans_25 : decode cX12_scans 25 = .ok (.getfield 210, 3) := by decide +kernel
theorem dX12_scans_28 : decode cX12_scans 28 = .ok (.getfield 214, 3) := by decide +kernel
theorem dX12_scans_31 : decode cX12_scans 31 = .ok (.if_icmp .gt 41, 3) := by decide +kernel
theorem dX12_scans_34 : decode cX12_scans 34 = .ok (.aload_n 0, 1) := by decide +kernel
theorem dX12_scans_35 : decode cX12_scans 35 = .ok (.getfield 43, 3) := by decide +kernel
theorem dX12_scans_38 : decode cX12_scans 38 = .ok (.aload_n 0, 1) := by decide +kernel
theorem dX12_scans_39 : decode cX12_scans 39 = .ok (.getfield 28, 3) := by decide +kernel
theorem dX12_scans_42 : decode cX12_scans 42 = .ok (.getfield 95, 3) := by decide +kernel
theorem dX12_scans_45 : decode cX12_scans 45 = .ok (.aload_n 0, 1) := by decide +kernel
theorem dX12_scans_46 : decode cX12_scans 46 = .ok (.getfield 28, 3) := by decide +kernel
theorem dX12_scans_49 : decode cX12_scans 49 = .ok (.getfield 149, 3) := by decide +kernel
theorem dX12_scans_52 : decode cX12_scans 52 = .ok (.iload_n 3, 1) := by decide +kernel
theorem dX12_scans_53 : decode cX12_scans 53 = .ok (.invokevirtual 241, 3) := by decide +kernel
theorem dX12_scans_56 : decode cX12_scans 56 = .ok (.iload_n 1, 1) := by decide +kernel
theorem dX12_scans_57 : decode cX12_scans 57 = .ok (.if_icmp .ne 9, 3) := by decide +kernel
theorem dX12_scans_60 : decode cX12_scans 60 = .ok (.iload_n 2, 1) := by decide +kernel
theorem dX12_scans_61 : decode cX12_scans 61 = .ok (.iconst 1, 1) := by decide +kernel
theorem dX12_scans_62 : decode cX12_scans 62 = .ok (.iload_n 3, 1) := by decide +kernel
theorem dX12_scans_63 : decode cX12_scans 63 = .ok (.ishl, 1) := by decide +kernel
theorem dX12_scans_64 : decode cX12_scans 64 = .ok (.ior, 1) := by decide +kernel
theorem dX12_scans_65 : decode cX12_scans 65 = .ok (.istore_n 2, 1) := by decide +kernel
theorem dX12_scans_66 : decode cX12_scans 66 = .ok (.iinc 3 1, 3) := by decide +kernel
theorem dX12_scans_69 : decode cX12_scans 69 = .ok (.goto (-52), 3) := by decide +kernel
theorem dX12_scans_72 : decode cX12_scans 72 = .ok (.iload_n 2, 1) := by decide +kernel
theorem dX12_scans_73 : decode cX12_scans 73 = .ok (.ireturn, 1) := by decide +kernel
theorem dX12_letters_0 : decode cX12_letters 0 = .ok (.aload_n 0, 1) := by decide +kernel
theorem dX12_letters_1 : decode cX12_letters 1 = .ok (.iload_n 1, 1) := by decide +kernel
theorem dX12_letters_2 : decode cX12_letters 2 = .ok (.invokevirtual 176, 3) := by decide +kernel
theorem dX12_letters_5 : decode cX12_letters 5 = .ok (.ifCond .eq 28, 3) := by decide +kernel
theorem dX12_letters_8 : decode cX12_letters 8 = .ok (.aload_n 0, 1) := by decide +kernel
theorem dX12_letters_9 : decode cX12_letters 9 = .ok (.getfield 43, 3) := by decide +kernel
theorem dX12_letters_12 : decode cX12_letters 12 = .ok (.aload_n 0, 1) := by decide +kernel
theorem dX12_letters_13 : decode cX12_letters 13 = .ok (.getfield 28, 3) := by decide +kernel
theorem dX12_letters_16 : decode cX12_letters 16 = .ok (.getfield 95, 3) := by decide +kernel
theorem dX12_letters_19 : decode cX12_letters 19 = .ok (.aload_n 0, 1) := by decide +kernel
theorem dX12_letters_20 : decode cX12_letters 20 = .ok (.getfield 28, 3) := by decide +kernel
theorem dX12_letters_23 : decode cX12_letters 23 = .ok (.getfield 149, 3) := by decide +kernel
theorem dX12_letters_26 : decode cX12_letters 26 = .ok (.iload_n 1, 1) := by decide +kernel
theorem dX12_letters_27 : decode cX12_letters 27 = .ok (.invokevirtual 244, 3) := by decide +kernel
theorem dX12_letters_30 : decode cX12_letters 30 = .ok (.goto 6, 3) := by decide +kernel
theorem dX12_letters_33 : decode cX12_letters 33 = .ok (.ldc2_w 194, 3) := by decide +kernel
theorem dX12_letters_36 : decode cX12_letters 36 = .ok (.lreturn, 1) := by decide +kernel
theorem dX12_find_0 : decode cX12_find 0 = .ok (.aload_n 0, 1) := by decide +kernel
theorem dX12_find_1 : decode cX12_find 1 = .ok (.iconst (-1), 1) := by decide +kernel
theorem dX12_find_2 : decode cX12_find 2 = .ok (.iload_n 1, 1) := by decide +kernel
theorem dX12_find_3 : decode cX12_find 3 = .ok (.invokevirtual 248, 3) := by decide +kernel
theorem dX12_find_6 : decode cX12_find 6 = .ok (.ireturn, 1) := by decide +kernel
theorem dX12_cheapest_0 : decode cX12_cheapest 0 = .ok (.aload_n 0, 1) := by decide +kernel
theorem dX12_cheapest_1 : decode cX12_cheapest 1 = .ok (.invokevirtual 252, 3) := by decide +kernel
theorem dX12_cheapest_4 : decode cX12_cheapest 4 = .ok (.ifCond .eq 13, 3) := by decide +kernel
theorem dX12_cheapest_7 : decode cX12_cheapest 7 = .ok (.iload_n 1, 1) := by decide +kernel
theorem dX12_cheapest_8 : decode cX12_cheapest 8 = .ok (.iconst 1, 1) := by decide +kernel
theorem dX12_cheapest_9 : decode cX12_cheapest 9 = .ok (.if_icmp .lt 8, 3) := by decide +kernel
theorem dX12_cheapest_12 : decode cX12_cheapest 12 = .ok (.iload_n 1, 1) := by decide +kernel
theorem dX12_cheapest_13 : decode cX12_cheapest 13 = .ok (.iconst 5, 1) := by decide +kernel
theorem dX12_cheapest_14 : decode cX12_cheapest 14 = .ok (.if_icmp .le 6, 3) := by decide +kernel
theorem dX12_cheapest_17 : decode cX12_cheapest 17 = .ok (.bipush (-2), 2) := by decide +kernel
theorem dX12_cheapest_19 : decode cX12_cheapest 19 = .ok (.ireturn, 1) := by decide +kernel
theorem dX12_cheapest_20 : decode cX12_cheapest 20 = .ok (.aload_n 0, 1) := by decide +kernel
theorem dX12_cheapest_21 : decode cX12_cheapest 21 = .ok (.getfield 50, 3) := by decide +kernel
theorem dX12_cheapest_24 : decode cX12_cheapest 24 = .ok (.aload_n 0, 1) := by decide +kernel
theorem dX12_cheapest_25 : decode cX12_cheapest 25 = .ok (.getfield 28, 3) := by decide +kernel
theorem dX12_cheapest_28 : decode cX12_cheapest 28 = .ok (.getfield 95, 3) := by decide +kernel
theorem dX12_cheapest_31 : decode cX12_cheapest 31 = .ok (.iload_n 1, 1) := by decide +kernel
theorem dX12_cheapest_32 : decode cX12_cheapest 32 = .ok (.invokevirtual 256, 3) := by decide +kernel
theorem dX12_cheapest_35 : decode cX12_cheapest 35 = .ok (.istore_n 2, 1) := by decide +kernel
theorem dX12_cheapest_36 : decode cX12_cheapest 36 = .ok (.iload_n 2, 1) := by decide +kernel
theorem dX12_cheapest_37 : decode cX12_cheapest 37 = .ok (.ifCond .lt 17, 3) := by decide +kernel
theorem dX12_cheapest_40 : decode cX12_cheapest 40 = .ok (.aload_n 0, 1) := by decide +kernel
theorem dX12_cheapest_41 : decode cX12_cheapest 41 = .ok (.getfield 61, 3) := by decide +kernel
theorem dX12_cheapest_44 : decode cX12_cheapest 44 = .ok (.aload_n 0, 1) := by decide +kernel
theorem dX12_cheapest_45 : decode cX12_cheapest 45 = .ok (.getfield 50, 3) := by decide +kernel
theorem dX12_cheapest_48 : decode cX12_cheapest 48 = .ok (.getfield 260, 3) := by decide +kernel
theorem dX12_cheapest_51 : decode cX12_cheapest 51 = .ok (.invokevirtual 152, 3) := by decide +kernel
theorem dX12_cheapest_54 : decode cX12_cheapest 54 = .ok (.iload_n 2, 1) := by decide +kernel
theorem dX12_cheapest_55 : decode cX12_cheapest 55 = .ok (.ireturn, 1) := by decide +kernel
theorem dX12_verse_0 : decode cX12_verse 0 = .ok (.iload_n 1, 1) := by decide +kernel
theorem dX12_verse_1 : decode cX12_verse 1 = .ok (.ifCond .lt 9, 3) := by decide +kernel
theorem dX12_verse_4 : decode cX12_verse 4 = .ok (.iload_n 1, 1) := by decide +kernel
theorem dX12_verse_5 : decode cX12_verse 5 = .ok (.bipush 54, 2) := by decide +kernel
theorem dX12_verse_7 : decode cX12_verse 7 = .ok (.if_icmp .le 14, 3) := by decide +kernel
theorem dX12_verse_10 : decode cX12_verse 10 = .ok (.aload_n 0, 1) := by decide +kernel
theorem dX12_verse_11 : decode cX12_verse 11 = .ok (.getfield 14, 3) := by decide +kernel
theorem dX12_verse_14 : decode cX12_verse 14 = .ok (.iconst 0, 1) := by decide +kernel
theorem dX12_verse_15 : decode cX12_verse 15 = .ok (.putfield 74, 3) := by decide +kernel
theorem dX12_verse_18 : decode cX12_verse 18 = .ok (.bipush (-2), 2) := by decide +kernel
theorem dX12_verse_20 : decode cX12_verse 20 = .ok (.ireturn, 1) := by decide +kernel
theorem dX12_verse_21 : decode cX12_verse 21 = .ok (.aload_n 0, 1) := by decide +kernel
theorem dX12_verse_22 : decode cX12_verse 22 = .ok (.iload_n 1, 1) := by decide +kernel
theorem dX12_verse_23 : decode cX12_verse 23 = .ok (.iload_n 2, 1) := by decide +kernel
theorem dX12_verse_24 : decode cX12_verse 24 = .ok (.invokevirtual 248, 3) := by decide +kernel
theorem dX12_verse_27 : decode cX12_verse 27 = .ok (.ireturn, 1) := by decide +kernel
theorem dX12_longer_0 : decode cX12_longer 0 = .ok (.iload_n 1, 1) := by decide +kernel
theorem dX12_longer_1 : decode cX12_longer 1 = .ok (.invokestatic 131, 3) := by decide +kernel
theorem dX12_longer_4 : decode cX12_longer 4 = .ok (.ifCond .eq 14, 3) := by decide +kernel
theorem dX12_longer_7 : decode cX12_longer 7 = .ok (.iload_n 2, 1) := by decide +kernel
theorem dX12_longer_8 : decode cX12_longer 8 = .ok (.iconst 1, 1) := by decide +kernel
theorem dX12_longer_9 : decode cX12_longer 9 = .ok (.if_icmp .lt 9, 3) := by decide +kernel
theorem dX12_longer_12 : decode cX12_longer 12 = .ok (.iload_n 2, 1) := by decide +kernel
theorem dX12_longer_13 : decode cX12_longer 13 = .ok (.bipush 6, 2) := by decide +kernel
theorem dX12_longer_15 : decode cX12_longer 15 = .ok (.if_icmp .le 6, 3) := by decide +kernel
theorem dX12_longer_18 : decode cX12_longer 18 = .ok (.bipush (-7), 2) := by decide +kernel
theorem dX12_longer_20 : decode cX12_longer 20 = .ok (.ireturn, 1) := by decide +kernel
theorem dX12_longer_21 : decode cX12_longer 21 = .ok (.aload_n 0, 1) := by decide +kernel
theorem dX12_longer_22 : decode cX12_longer 22 = .ok (.getfield 50, 3) := by decide +kernel
theorem dX12_longer_25 : decode cX12_longer 25 = .ok (.iload_n 1, 1) := by decide +kernel
theorem dX12_longer_26 : decode cX12_longer 26 = .ok (.bipush 9, 2) := by decide +kernel
theorem dX12_longer_28 : decode cX12_longer 28 = .ok (.invokevirtual 263, 3) := by decide +kernel
theorem dX12_longer_31 : decode cX12_longer 31 = .ok (.aload_n 0, 1) := by decide +kernel
theorem dX12_longer_32 : decode cX12_longer 32 = .ok (.getfield 50, 3) := by decide +kernel
theorem dX12_longer_35 : decode cX12_longer 35 = .ok (.aload_n 0, 1) := by decide +kernel
theorem dX12_longer_36 : decode cX12_longer 36 = .ok (.getfield 28, 3) := by decide +kernel
theorem dX12_longer_39 : decode cX12_longer 39 = .ok (.getfield 95, 3) := by decide +kernel
theorem dX12_longer_42 : decode cX12_longer 42 = .ok (.aload_n 0, 1) := by decide +kernel
theorem dX12_longer_43 : decode cX12_longer 43 = .ok (.getfield 28, 3) := by decide +kernel
theorem dX12_longer_46 : decode cX12_longer 46 = .ok (.getfield 95, 3) := by decide +kernel
theorem dX12_longer_49 : decode cX12_longer 49 = .ok (.getfield 210, 3) := by decide +kernel
theorem dX12_longer_52 : decode cX12_longer 52 = .ok (.iload_n 2, 1) := by decide +kernel
theorem dX12_longer_53 : decode cX12_longer 53 = .ok (.invokevirtual 267, 3) := by decide +kernel
theorem dX12_longer_56 : decode cX12_longer 56 = .ok (.istore_n 3, 1) := by decide +kernel
theorem dX12_longer_57 : decode cX12_longer 57 = .ok (.aload_n 0, 1) := by decide +kernel
theorem dX12_longer_58 : decode cX12_longer 58 = .ok (.getfield 50, 3) := by decide +kernel
theorem dX12_longer_61 : decode cX12_longer 61 = .ok (.bipush 9, 2) := by decide +kernel
theorem dX12_longer_63 : decode cX12_longer 63 = .ok (.iload_n 1, 1) := by decide +kernel
theorem dX12_longer_64 : decode cX12_longer 64 = .ok (.invokevirtual 263, 3) := by decide +kernel
theorem dX12_longer_67 : decode cX12_longer 67 = .ok (.aload_n 0, 1) := by decide +kernel
theorem dX12_longer_68 : decode cX12_longer 68 = .ok (.getfield 50, 3) := by decide +kernel
theorem dX12_longer_71 : decode cX12_longer 71 = .ok (.aload_n 0, 1) := by decide +kernel
theorem dX12_longer_72 : decode cX12_longer 72 = .ok (.getfield 28, 3) := by decide +kernel
theorem dX12_longer_75 : decode cX12_longer 75 = .ok (.getfield 95, 3) := by decide +kernel
theorem dX12_longer_78 : decode cX12_longer 78 = .ok (.aload_n 0, 1) := by decide +kernel
theorem dX12_longer_79 : decode cX12_longer 79 = .ok (.getfield 28, 3) := by decide +kernel
theorem dX12_longer_82 : decode cX12_longer 82 = .ok (.getfield 95, 3) := by decide +kernel
theorem dX12_longer_85 : decode cX12_longer 85 = .ok (.getfield 210, 3) := by decide +kernel
theorem dX12_longer_88 : decode cX12_longer 88 = .ok (.iload_n 2, 1) := by decide +kernel
theorem dX12_longer_89 : decode cX12_longer 89 = .ok (.invokevirtual 267, 3) := by decide +kernel
theorem dX12_longer_92 : decode cX12_longer 92 = .ok (.istore 4, 2) := by decide +kernel
theorem dX12_longer_94 : decode cX12_longer 94 = .ok (.iload_n 3, 1) := by decide +kernel
theorem dX12_longer_95 : decode cX12_longer 95 = .ok (.ifCond .lt 8, 3) := by decide +kernel
theorem dX12_longer_98 : decode cX12_longer 98 = .ok (.iload 4, 2) := by decide +kernel
theorem dX12_longer_100 : decode cX12_longer 100 = .ok (.ifCond .ge 8, 3) := by decide +kernel
theorem dX12_longer_103 : decode cX12_longer 103 = .ok (.bipush (-7), 2) := by decide +kernel
theorem dX12_longer_105 : decode cX12_longer 105 = .ok (.goto 7, 3) := by decide +kernel
theorem dX12_longer_108 : decode cX12_longer 108 = .ok (.iload 4, 2) := by decide +kernel
theorem dX12_longer_110 : decode cX12_longer 110 = .ok (.iload_n 3, 1) := by decide +kernel
theorem dX12_longer_111 : decode cX12_longer 111 = .ok (.isub, 1) := by decide +kernel
theorem dX12_longer_112 : decode cX12_longer 112 = .ok (.ireturn, 1) := by decide +kernel
theorem dX12_foundAt_0 : decode cX12_foundAt 0 = .ok (.aload_n 0, 1) := by decide +kernel
theorem dX12_foundAt_1 : decode cX12_foundAt 1 = .ok (.getfield 61, 3) := by decide +kernel
theorem dX12_foundAt_4 : decode cX12_foundAt 4 = .ok (.iload_n 1, 1) := by decide +kernel
theorem dX12_foundAt_5 : decode cX12_foundAt 5 = .ok (.invokevirtual 183, 3) := by decide +kernel
theorem dX12_foundAt_8 : decode cX12_foundAt 8 = .ok (.ireturn, 1) := by decide +kernel
theorem dX12_sayable_0 : decode cX12_sayable 0 = .ok (.iload_n 1, 1) := by decide +kernel
theorem dX12_sayable_1 : decode cX12_sayable 1 = .ok (.iconst 1, 1) := by decide +kernel
theorem dX12_sayable_2 : decode cX12_sayable 2 = .ok (.if_icmp .lt 8, 3) := by decide +kernel
theorem dX12_sayable_5 : decode cX12_sayable 5 = .ok (.iload_n 1, 1) := by decide +kernel
theorem dX12_sayable_6 : decode cX12_sayable 6 = .ok (.iconst 5, 1) := by decide +kernel
theorem dX12_sayable_7 : decode cX12_sayable 7 = .ok (.if_icmp .le 7, 3) := by decide +kernel
theorem dX12_sayable_10 : decode cX12_sayable 10 = .ok (.iconst (-1), 1) := by decide +kernel
theorem dX12_sayable_11 : decode cX12_sayable 11 = .ok (.goto 18, 3) := by decide +kernel
theorem dX12_sayable_14 : decode cX12_sayable 14 = .ok (.aload_n 0, 1) := by decide +kernel
theorem dX12_sayable_15 : decode cX12_sayable 15 = .ok (.getfield 50, 3) := by decide +kernel
theorem dX12_sayable_18 : decode cX12_sayable 18 = .ok (.aload_n 0, 1) := by decide +kernel
theorem dX12_sayable_19 : decode cX12_sayable 19 = .ok (.getfield 28, 3) := by decide +kernel
theorem dX12_sayable_22 : decode cX12_sayable 22 = .ok (.getfield 95, 3) := by decide +kernel
theorem dX12_sayable_25 : decode cX12_sayable 25 = .ok (.iload_n 1, 1) := by decide +kernel
theorem dX12_sayable_26 : decode cX12_sayable 26 = .ok (.invokevirtual 271, 3) := by decide +kernel
theorem dX12_sayable_29 : decode cX12_sayable 29 = .ok (.ireturn, 1) := by decide +kernel
theorem dX12_link_0 : decode cX12_link 0 = .ok (.aload_n 0, 1) := by decide +kernel
theorem dX12_link_1 : decode cX12_link 1 = .ok (.iconst 1, 1) := by decide +kernel
theorem dX12_link_2 : decode cX12_link 2 = .ok (.iload_n 1, 1) := by decide +kernel
theorem dX12_link_3 : decode cX12_link 3 = .ok (.invokevirtual 274, 3) := by decide +kernel
theorem dX12_link_6 : decode cX12_link 6 = .ok (.ireturn, 1) := by decide +kernel
theorem dX12_lend_0 : decode cX12_lend 0 = .ok (.aload_n 0, 1) := by decide +kernel
theorem dX12_lend_1 : decode cX12_lend 1 = .ok (.iconst 0, 1) := by decide +kernel
theorem dX12_lend_2 : decode cX12_lend 2 = .ok (.iload_n 1, 1) := by decide +kernel
theorem dX12_lend_3 : decode cX12_lend 3 = .ok (.invokevirtual 274, 3) := by decide +kernel
theorem dX12_lend_6 : decode cX12_lend 6 = .ok (.ireturn, 1) := by decide +kernel
