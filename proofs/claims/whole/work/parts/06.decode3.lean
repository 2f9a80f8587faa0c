theorem dX12_other_0 : decode cX12_other 0 = .ok (.iload_n 1, 1) := by decide +kernel
theorem dX12_other_1 : decode cX12_other 1 = .ok (.iconst 2, 1) := by decide +kernel
theorem dX12_other_2 : decode cX12_other 2 = .ok (.if_icmp .lt 22, 3) := by decide +kernel
theorem dX12_other_5 : decode cX12_other 5 = .ok (.iload_n 1, 1) := by decide +kernel
theorem dX12_other_6 : decode cX12_other 6 = .ok (.iconst 5, 1) := by decide +kernel
theorem dX12_other_7 : decode cX12_other 7 = .ok (.if_icmp .gt 17, 3) := by decide +kernel
theorem dX12_other_10 : decode cX12_other 10 = .ok (.iload_n 2, 1) := by decide +kernel
theorem dX12_other_11 : decode cX12_other 11 = .ok (.iconst 1, 1) := by decide +kernel
theorem dX12_other_12 : decode cX12_other 12 = .ok (.if_icmp .lt 12, 3) := by decide +kernel
theorem dX12_other_15 : decode cX12_other 15 = .ok (.iload_n 2, 1) := by decide +kernel
theorem dX12_other_16 : decode cX12_other 16 = .ok (.iload_n 1, 1) := by decide +kernel
theorem dX12_other_17 : decode cX12_other 17 = .ok (.if_icmp .ge 7, 3) := by decide +kernel
theorem dX12_other_20 : decode cX12_other 20 = .ok (.iconst 1, 1) := by decide +kernel
theorem dX12_other_21 : decode cX12_other 21 = .ok (.goto 4, 3) := by decide +kernel
theorem dX12_other_24 : decode cX12_other 24 = .ok (.iconst 0, 1) := by decide +kernel
theorem dX12_other_25 : decode cX12_other 25 = .ok (.istore 5, 2) := by decide +kernel
theorem dX12_other_27 : decode cX12_other 27 = .ok (.iload 5, 2) := by decide +kernel
theorem dX12_other_29 : decode cX12_other 29 = .ok (.ifCond .eq 23, 3) := by decide +kernel
theorem dX12_other_32 : decode cX12_other 32 = .ok (.iload_n 3, 1) := by decide +kernel
theorem dX12_other_33 : decode cX12_other 33 = .ok (.invokestatic 131, 3) := by decide +kernel
theorem dX12_other_36 : decode cX12_other 36 = .ok (.ifCond .eq 16, 3) := by decide +kernel
theorem dX12_other_39 : decode cX12_other 39 = .ok (.iload 4, 2) := by decide +kernel
theorem dX12_other_41 : decode cX12_other 41 = .ok (.iconst 1, 1) := by decide +kernel
theorem dX12_other_42 : decode cX12_other 42 = .ok (.if_icmp .lt 10, 3) := by decide +kernel
theorem dX12_other_45 : decode cX12_other 45 = .ok (.iload 4, 2) := by decide +kernel
theorem dX12_other_47 : decode cX12_other 47 = .ok (.bipush 6, 2) := by decide +kernel
theorem dX12_other_49 : decode cX12_other 49 = .ok (.if_icmp .le 6, 3) := by decide +kernel
theorem dX12_other_52 : decode cX12_other 52 = .ok (.bipush (-2), 2) := by decide +kernel
theorem dX12_other_54 : decode cX12_other 54 = .ok (.ireturn, 1) := by decide +kernel
theorem dX12_other_55 : decode cX12_other 55 = .ok (.aload_n 0, 1) := by decide +kernel
theorem dX12_other_56 : decode cX12_other 56 = .ok (.getfield 50, 3) := by decide +kernel
theorem dX12_other_59 : decode cX12_other 59 = .ok (.bipush 9, 2) := by decide +kernel
theorem dX12_other_61 : decode cX12_other 61 = .ok (.iload_n 3, 1) := by decide +kernel
theorem dX12_other_62 : decode cX12_other 62 = .ok (.invokevirtual 263, 3) := by decide +kernel
theorem dX12_other_65 : decode cX12_other 65 = .ok (.aload_n 0, 1) := by decide +kernel
theorem dX12_other_66 : decode cX12_other 66 = .ok (.getfield 50, 3) := by decide +kernel
theorem dX12_other_69 : decode cX12_other 69 = .ok (.aload_n 0, 1) := by decide +kernel
theorem dX12_other_70 : decode cX12_other 70 = .ok (.getfield 28, 3) := by decide +kernel
theorem dX12_other_73 : decode cX12_other 73 = .ok (.getfield 95, 3) := by decide +kernel
theorem dX12_other_76 : decode cX12_other 76 = .ok (.iload_n 1, 1) := by decide +kernel
theorem dX12_other_77 : decode cX12_other 77 = .ok (.iload_n 2, 1) := by decide +kernel
theorem dX12_other_78 : decode cX12_other 78 = .ok (.iload 4, 2) := by decide +kernel
theorem dX12_other_80 : decode cX12_other 80 = .ok (.invokevirtual 278, 3) := by decide +kernel
theorem dX12_other_83 : decode cX12_other 83 = .ok (.ireturn, 1) := by decide +kernel
theorem dX12_mend_0 : decode cX12_mend 0 = .ok (.aload_n 0, 1) := by decide +kernel
theorem dX12_mend_1 : decode cX12_mend 1 = .ok (.getfield 28, 3) := by decide +kernel
theorem dX12_mend_4 : decode cX12_mend 4 = .ok (.getfield 149, 3) := by decide +kernel
theorem dX12_mend_7 : decode cX12_mend 7 = .ok (.getfield 74, 3) := by decide +kernel
theorem dX12_mend_10 : decode cX12_mend 10 = .ok (.iconst 1, 1) := by decide +kernel
theorem dX12_mend_11 : decode cX12_mend 11 = .ok (.if_icmp .lt 18, 3) := by decide +kernel
theorem dX12_mend_14 : decode cX12_mend 14 = .ok (.aload_n 0, 1) := by decide +kernel
theorem dX12_mend_15 : decode cX12_mend 15 = .ok (.getfield 28, 3) := by decide +kernel
theorem dX12_mend_18 : decode cX12_mend 18 = .ok (.getfield 149, 3) := by decide +kernel
theorem dX12_mend_21 : decode cX12_mend 21 = .ok (.getfield 74, 3) := by decide +kernel
theorem dX12_mend_24 : decode cX12_mend 24 = .ok (.bipush 10, 2) := by decide +kernel
theorem dX12_mend_26 : decode cX12_mend 26 = .ok (.if_icmp .le 6, 3) := by decide +kernel
theorem dX12_mend_29 : decode cX12_mend 29 = .ok (.bipush (-2), 2) := by decide +kernel
theorem dX12_mend_31 : decode cX12_mend 31 = .ok (.ireturn, 1) := by decide +kernel
theorem dX12_mend_32 : decode cX12_mend 32 = .ok (.aload_n 0, 1) := by decide +kernel
theorem dX12_mend_33 : decode cX12_mend 33 = .ok (.getfield 50, 3) := by decide +kernel
theorem dX12_mend_36 : decode cX12_mend 36 = .ok (.aload_n 0, 1) := by decide +kernel
theorem dX12_mend_37 : decode cX12_mend 37 = .ok (.getfield 28, 3) := by decide +kernel
theorem dX12_mend_40 : decode cX12_mend 40 = .ok (.getfield 95, 3) := by decide +kernel
theorem dX12_mend_43 : decode cX12_mend 43 = .ok (.aload_n 0, 1) := by decide +kernel
theorem dX12_mend_44 : decode cX12_mend 44 = .ok (.getfield 28, 3) := by decide +kernel
theorem dX12_mend_47 : decode cX12_mend 47 = .ok (.getfield 149, 3) := by decide +kernel
theorem dX12_mend_50 : decode cX12_mend 50 = .ok (.invokevirtual 282, 3) := by decide +kernel
theorem dX12_mend_53 : decode cX12_mend 53 = .ok (.istore_n 1, 1) := by decide +kernel
theorem dX12_mend_54 : decode cX12_mend 54 = .ok (.iload_n 1, 1) := by decide +kernel
theorem dX12_mend_55 : decode cX12_mend 55 = .ok (.ifCond .lt 17, 3) := by decide +kernel
theorem dX12_mend_58 : decode cX12_mend 58 = .ok (.aload_n 0, 1) := by decide +kernel
theorem dX12_mend_59 : decode cX12_mend 59 = .ok (.getfield 61, 3) := by decide +kernel
theorem dX12_mend_62 : decode cX12_mend 62 = .ok (.aload_n 0, 1) := by decide +kernel
theorem dX12_mend_63 : decode cX12_mend 63 = .ok (.getfield 50, 3) := by decide +kernel
theorem dX12_mend_66 : decode cX12_mend 66 = .ok (.invokevirtual 285, 3) := by decide +kernel
theorem dX12_mend_69 : decode cX12_mend 69 = .ok (.invokevirtual 152, 3) := by decide +kernel
theorem dX12_mend_72 : decode cX12_mend 72 = .ok (.iload_n 1, 1) := by decide +kernel
theorem dX12_mend_73 : decode cX12_mend 73 = .ok (.ireturn, 1) := by decide +kernel
theorem dX12_torn_0 : decode cX12_torn 0 = .ok (.aload_n 0, 1) := by decide +kernel
theorem dX12_torn_1 : decode cX12_torn 1 = .ok (.bipush 12, 2) := by decide +kernel
theorem dX12_torn_3 : decode cX12_torn 3 = .ok (.invokevirtual 156, 3) := by decide +kernel
theorem dX12_torn_6 : decode cX12_torn 6 = .ok (.istore_n 3, 1) := by decide +kernel
theorem dX12_torn_7 : decode cX12_torn 7 = .ok (.iload_n 3, 1) := by decide +kernel
theorem dX12_torn_8 : decode cX12_torn 8 = .ok (.ifCond .eq 22, 3) := by decide +kernel
theorem dX12_torn_11 : decode cX12_torn 11 = .ok (.aload_n 0, 1) := by decide +kernel
theorem dX12_torn_12 : decode cX12_torn 12 = .ok (.iload_n 1, 1) := by decide +kernel
theorem dX12_torn_13 : decode cX12_torn 13 = .ok (.invokevirtual 223, 3) := by decide +kernel
theorem dX12_torn_16 : decode cX12_torn 16 = .ok (.ifCond .eq 14, 3) := by decide +kernel
theorem dX12_torn_19 : decode cX12_torn 19 = .ok (.iload_n 2, 1) := by decide +kernel
theorem dX12_torn_20 : decode cX12_torn 20 = .ok (.iconst 1, 1) := by decide +kernel
theorem dX12_torn_21 : decode cX12_torn 21 = .ok (.if_icmp .lt 9, 3) := by decide +kernel
theorem dX12_torn_24 : decode cX12_torn 24 = .ok (.iload_n 2, 1) := by decide +kernel
theorem dX12_torn_25 : decode cX12_torn 25 = .ok (.bipush 12, 2) := by decide +kernel
theorem dX12_torn_27 : decode cX12_torn 27 = .ok (.if_icmp .le 7, 3) := by decide +kernel
theorem dX12_torn_30 : decode cX12_torn 30 = .ok (.ldc2_w 194, 3) := by decide +kernel
theorem dX12_torn_33 : decode cX12_torn 33 = .ok (.lreturn, 1) := by decide +kernel
theorem dX12_torn_34 : decode cX12_torn 34 = .ok (.aload_n 0, 1) := by decide +kernel
theorem dX12_torn_35 : decode cX12_torn 35 = .ok (.getfield 28, 3) := by decide +kernel
theorem dX12_torn_38 : decode cX12_torn 38 = .ok (.getfield 95, 3) := by decide +kernel
theorem dX12_torn_41 : decode cX12_torn 41 = .ok (.getfield 210, 3) := by decide +kernel
theorem dX12_torn_44 : decode cX12_torn 44 = .ok (.iload_n 2, 1) := by decide +kernel
theorem dX12_torn_45 : decode cX12_torn 45 = .ok (.iload_n 1, 1) := by decide +kernel
theorem dX12_torn_46 : decode cX12_torn 46 = .ok (.invokevirtual 289, 3) := by decide +kernel
theorem dX12_torn_49 : decode cX12_torn 49 = .ok (.aload_n 0, 1) := by decide +kernel
theorem dX12_torn_50 : decode cX12_torn 50 = .ok (.getfield 71, 3) := by decide +kernel
theorem dX12_torn_53 : decode cX12_torn 53 = .ok (.getfield 74, 3) := by decide +kernel
theorem dX12_torn_56 : decode cX12_torn 56 = .ok (.if_icmp .eq 7, 3) := by decide +kernel
theorem dX12_torn_59 : decode cX12_torn 59 = .ok (.ldc2_w 194, 3) := by decide +kernel
theorem dX12_torn_62 : decode cX12_torn 62 = .ok (.lreturn, 1) := by decide +kernel
theorem dX12_torn_63 : decode cX12_torn 63 = .ok (.aload_n 0, 1) := by decide +kernel
theorem dX12_torn_64 : decode cX12_torn 64 = .ok (.getfield 57, 3) := by decide +kernel
theorem dX12_torn_67 : decode cX12_torn 67 = .ok (.aload_n 0, 1) := by decide +kernel
theorem dX12_torn_68 : decode cX12_torn 68 = .ok (.getfield 28, 3) := by decide +kernel
theorem dX12_torn_71 : decode cX12_torn 71 = .ok (.getfield 95, 3) := by decide +kernel
theorem dX12_torn_74 : decode cX12_torn 74 = .ok (.aload_n 0, 1) := by decide +kernel
theorem dX12_torn_75 : decode cX12_torn 75 = .ok (.getfield 71, 3) := by decide +kernel
theorem dX12_torn_78 : decode cX12_torn 78 = .ok (.iload_n 1, 1) := by decide +kernel
theorem dX12_torn_79 : decode cX12_torn 79 = .ok (.iload_n 2, 1) := by decide +kernel
theorem dX12_torn_80 : decode cX12_torn 80 = .ok (.invokevirtual 292, 3) := by decide +kernel
theorem dX12_torn_83 : decode cX12_torn 83 = .ok (.aload_n 0, 1) := by decide +kernel
theorem dX12_torn_84 : decode cX12_torn 84 = .ok (.getfield 57, 3) := by decide +kernel
theorem dX12_torn_87 : decode cX12_torn 87 = .ok (.getfield 296, 3) := by decide +kernel
theorem dX12_torn_90 : decode cX12_torn 90 = .ok (.lreturn, 1) := by decide +kernel
theorem dX12_sure_0 : decode cX12_sure 0 = .ok (.aload_n 0, 1) := by decide +kernel
theorem dX12_sure_1 : decode cX12_sure 1 = .ok (.getfield 57, 3) := by decide +kernel
theorem dX12_sure_4 : decode cX12_sure 4 = .ok (.getfield 300, 3) := by decide +kernel
theorem dX12_sure_7 : decode cX12_sure 7 = .ok (.ifCond .ne 5, 3) := by decide +kernel
theorem dX12_sure_10 : decode cX12_sure 10 = .ok (.iconst (-1), 1) := by decide +kernel
theorem dX12_sure_11 : decode cX12_sure 11 = .ok (.ireturn, 1) := by decide +kernel
theorem dX12_sure_12 : decode cX12_sure 12 = .ok (.iload_n 1, 1) := by decide +kernel
theorem dX12_sure_13 : decode cX12_sure 13 = .ok (.tableswitch 51 0 2 #[27, 35, 43], 27) := by decide +kernel
theorem dX12_sure_40 : decode cX12_sure 40 = .ok (.aload_n 0, 1) := by decide +kernel
theorem dX12_sure_41 : decode cX12_sure 41 = .ok (.getfield 57, 3) := by decide +kernel
theorem dX12_sure_44 : decode cX12_sure 44 = .ok (.getfield 304, 3) := by decide +kernel
theorem dX12_sure_47 : decode cX12_sure 47 = .ok (.ireturn, 1) := by decide +kernel
theorem dX12_sure_48 : decode cX12_sure 48 = .ok (.aload_n 0, 1) := by decide +kernel
theorem dX12_sure_49 : decode cX12_sure 49 = .ok (.getfield 57, 3) := by decide +kernel
theorem dX12_sure_52 : decode cX12_sure 52 = .ok (.getfield 307, 3) := by decide +kernel
theorem dX12_sure_55 : decode cX12_sure 55 = .ok (.ireturn, 1) := by decide +kernel
theorem dX12_sure_56 : decode cX12_sure 56 = .ok (.aload_n 0, 1) := by decide +kernel
theorem dX12_sure_57 : decode cX12_sure 57 = .ok (.getfield 57, 3) := by decide +kernel
theorem dX12_sure_60 : decode cX12_sure 60 = .ok (.getfield 310, 3) := by decide +kernel
theorem dX12_sure_63 : decode cX12_sure 63 = .ok (.ireturn, 1) := by decide +kernel
theorem dX12_sure_64 : decode cX12_sure 64 = .ok (.iconst (-1), 1) := by decide +kernel
theorem dX12_sure_65 : decode cX12_sure 65 = .ok (.ireturn, 1) := by decide +kernel
theorem dX12_likeliest_0 : decode cX12_likeliest 0 = .ok (.aload_n 0, 1) := by decide +kernel
theorem dX12_likeliest_1 : decode cX12_likeliest 1 = .ok (.getfield 57, 3) := by decide +kernel
theorem dX12_likeliest_4 : decode cX12_likeliest 4 = .ok (.getfield 300, 3) := by decide +kernel
theorem dX12_likeliest_7 : decode cX12_likeliest 7 = .ok (.ifCond .ne 7, 3) := by decide +kernel
theorem dX12_likeliest_10 : decode cX12_likeliest 10 = .ok (.ldc2_w 194, 3) := by decide +kernel
theorem dX12_likeliest_13 : decode cX12_likeliest 13 = .ok (.lreturn, 1) := by decide +kernel
theorem dX12_likeliest_14 : decode cX12_likeliest 14 = .ok (.aload_n 0, 1) := by decide +kernel
theorem dX12_likeliest_15 : decode cX12_likeliest 15 = .ok (.getfield 57, 3) := by decide +kernel
theorem dX12_likeliest_18 : decode cX12_likeliest 18 = .ok (.getfield 313, 3) := by decide +kernel
theorem dX12_likeliest_21 : decode cX12_likeliest 21 = .ok (.lconst 0, 1) := by decide +kernel
theorem dX12_likeliest_22 : decode cX12_likeliest 22 = .ok (.lcmp, 1) := by decide +kernel
theorem dX12_likeliest_23 : decode cX12_likeliest 23 = .ok (.ifCond .le 17, 3) := by decide +kernel
theorem dX12_likeliest_26 : decode cX12_likeliest 26 = .ok (.aload_n 0, 1) := by decide +kernel
theorem dX12_likeliest_27 : decode cX12_likeliest 27 = .ok (.getfield 61, 3) := by decide +kernel
theorem dX12_likeliest_30 : decode cX12_likeliest 30 = .ok (.aload_n 0, 1) := by decide +kernel
theorem dX12_likeliest_31 : decode cX12_likeliest 31 = .ok (.getfield 57, 3) := by decide +kernel
theorem dX12_likeliest_34 : decode cX12_likeliest 34 = .ok (.getfield 316, 3) := by decide +kernel
theorem dX12_likeliest_37 : decode cX12_likeliest 37 = .ok (.invokevirtual 152, 3) := by decide +kernel
theorem dX12_likeliest_40 : decode cX12_likeliest 40 = .ok (.aload_n 0, 1) := by decide +kernel
theorem dX12_likeliest_41 : decode cX12_likeliest 41 = .ok (.getfield 57, 3) := by decide +kernel
theorem dX12_likeliest_44 : decode cX12_likeliest 44 = .ok (.getfield 313, 3) := by decide +kernel
theorem dX12_likeliest_47 : decode cX12_likeliest 47 = .ok (.lreturn, 1) := by decide +kernel
theorem dX12_add_0 : decode cX12_add 0 = .ok (.aload_n 0, 1) := by decide +kernel
theorem dX12_add_1 : decode cX12_add 1 = .ok (.getfield 28, 3) := by decide +kernel
theorem dX12_add_4 : decode cX12_add 4 = .ok (.getfield 319, 3) := by decide +kernel
theorem dX12_add_7 : decode cX12_add 7 = .ok (.bipush 10, 2) := by decide +kernel
theorem dX12_add_9 : decode cX12_add 9 = .ok (.if_icmp .lt 5, 3) := by decide +kernel
theorem dX12_add_12 : decode cX12_add 12 = .ok (.iconst (-1), 1) := by decide +kernel
theorem dX12_add_13 : decode cX12_add 13 = .ok (.ireturn, 1) := by decide +kernel
theorem dX12_add_14 : decode cX12_add 14 = .ok (.aload_n 0, 1) := by decide +kernel
theorem dX12_add_15 : decode cX12_add 15 = .ok (.getfield 28, 3) := by decide +kernel
theorem dX12_add_18 : decode cX12_add 18 = .ok (.getfield 322, 3) := by decide +kernel
theorem dX12_add_21 : decode cX12_add 21 = .ok (.aload_n 0, 1) := by decide +kernel
theorem dX12_add_22 : decode cX12_add 22 = .ok (.getfield 28, 3) := by decide +kernel
theorem dX12_add_25 : decode cX12_add 25 = .ok (.getfield 319, 3) := by decide +kernel
theorem dX12_add_28 : decode cX12_add 28 = .ok (.aaload, 1) := by decide +kernel
theorem dX12_add_29 : decode cX12_add 29 = .ok (.aload_n 0, 1) := by decide +kernel
theorem dX12_add_30 : decode cX12_add 30 = .ok (.getfield 28, 3) := by decide +kernel
theorem dX12_add_33 : decode cX12_add 33 = .ok (.getfield 149, 3) := by decide +kernel
theorem dX12_add_36 : decode cX12_add 36 = .ok (.invokevirtual 152, 3) := by decide +kernel
theorem dX12_add_39 : decode cX12_add 39 = .ok (.aload_n 0, 1) := by decide +kernel
theorem dX12_add_40 : decode cX12_add 40 = .ok (.getfield 28, 3) := by decide +kernel
theorem dX12_add_43 : decode cX12_add 43 = .ok (.dup, 1) := by decide +kernel
theorem dX12_add_44 : decode cX12_add 44 = .ok (.getfield 319, 3) := by decide +kernel
theorem dX12_add_47 : decode cX12_add 47 = .ok (.iconst 1, 1) := by decide +kernel
theorem dX12_add_48 : decode cX12_add 48 = .ok (.iadd, 1) := by decide +kernel
theorem dX12_add_49 : decode cX12_add 49 = .ok (.putfield 319, 3) := by decide +kernel
theorem dX12_add_52 : decode cX12_add 52 = .ok (.aload_n 0, 1) := by decide +kernel
theorem dX12_add_53 : decode cX12_add 53 = .ok (.getfield 28, 3) := by decide +kernel
theorem dX12_add_56 : decode cX12_add 56 = .ok (.getfield 319, 3) := by decide +kernel
theorem dX12_add_59 : decode cX12_add 59 = .ok (.iconst 1, 1) := by decide +kernel
theorem dX12_add_60 : decode cX12_add 60 = .ok (.isub, 1) := by decide +kernel
theorem dX12_add_61 : decode cX12_add 61 = .ok (.ireturn, 1) := by decide +kernel
theorem dX12_take_0 : decode cX12_take 0 = .ok (.iload_n 1, 1) := by decide +kernel
theorem dX12_take_1 : decode cX12_take 1 = .ok (.ifCond .lt 14, 3) := by decide +kernel
theorem dX12_take_4 : decode cX12_take 4 = .ok (.iload_n 1, 1) := by decide +kernel
theorem dX12_take_5 : decode cX12_take 5 = .ok (.aload_n 0, 1) := by decide +kernel
theorem dX12_take_6 : decode cX12_take 6 = .ok (.getfield 28, 3) := by decide +kernel
theorem dX12_take_9 : decode cX12_take 9 = .ok (.getfield 319, 3) := by decide +kernel
theorem dX12_take_12 : decode cX12_take 12 = .ok (.if_icmp .lt 5, 3) := by decide +kernel
theorem dX12_take_15 : decode cX12_take 15 = .ok (.iconst (-1), 1) := by decide +kernel
theorem dX12_take_16 : decode cX12_take 16 = .ok (.ireturn, 1) := by decide +kernel
theorem dX12_take_17 : decode cX12_take 17 = .ok (.aload_n 0, 1) := by decide +kernel
theorem dX12_take_18 : decode cX12_take 18 = .ok (.getfield 28, 3) := by decide +kernel
theorem dX12_take_21 : decode cX12_take 21 = .ok (.getfield 149, 3) := by decide +kernel
theorem dX12_take_24 : decode cX12_take 24 = .ok (.aload_n 0, 1) := by decide +kernel
theorem dX12_take_25 : decode cX12_take 25 = .ok (.getfield 28, 3) := by decide +kernel
theorem dX12_take_28 : decode cX12_take 28 = .ok (.getfield 322, 3) := by decide +kernel
theorem dX12_take_31 : decode cX12_take 31 = .ok (.iload_n 1, 1) := by decide +kernel
theorem dX12_take_32 : decode cX12_take 32 = .ok (.aaload, 1) := by decide +kernel
theorem dX12_take_33 : decode cX12_take 33 = .ok (.invokevirtual 152, 3) := by decide +kernel
theorem dX12_take_36 : decode cX12_take 36 = .ok (.aload_n 0, 1) := by decide +kernel
theorem dX12_take_37 : decode cX12_take 37 = .ok (.getfield 28, 3) := by decide +kernel
theorem dX12_take_40 : decode cX12_take 40 = .ok (.getfield 149, 3) := by decide +kernel
theorem dX12_take_43 : decode cX12_take 43 = .ok (.getfield 74, 3) := by decide +kernel
theorem dX12_take_46 : decode cX12_take 46 = .ok (.ireturn, 1) := by decide +kernel
theorem dX12_book_0 : decode cX12_book 0 = .ok (.aload_n 0, 1) := by decide +kernel
theorem dX12_book_1 : decode cX12_book 1 = .ok (.iload_n 1, 1) := by decide +kernel
theorem dX12_book_2 : decode cX12_book 2 = .ok (.invokevirtual 176, 3) := by decide +kernel
theorem dX12_book_5 : decode cX12_book 5 = .ok (.ifCond .ne 5, 3) := by decide +kernel
theorem dX12_book_8 : decode cX12_book 8 = .ok (.iconst (-1), 1) := by decide +kernel
theorem dX12_book_9 : decode cX12_book 9 = .ok (.ireturn, 1) := by decide +kernel
theorem dX12_book_10 : decode cX12_book 10 = .ok (.iconst 0, 1) := by decide +kernel
theorem dX12_book_11 : decode cX12_book 11 = .ok (.istore_n 2, 1) := by decide +kernel
theorem dX12_book_12 : decode cX12_book 12 = .ok (.iconst 0, 1) := by decide +kernel
theorem dX12_book_13 : decode cX12_book 13 = .ok (.istore_n 3, 1) := by decide +kernel
theorem dX12_book_14 : decode cX12_book 14 = .ok (.iload_n 3, 1) := by decide +kernel
theorem dX12_book_15 : decode cX12_book 15 = .ok (.aload_n 0, 1) := by decide +kernel
theorem dX12_book_16 : decode cX12_book 16 = .ok (.getfield 28, 3) := by decide +kernel
theorem dX12_book_19 : decode cX12_book 19 = .ok (.getfield 319, 3) := by decide +kernel
theorem dX12_book_22 : decode cX12_book 22 = .ok (.if_icmp .ge 61, 3) := by decide +kernel
theorem dX12_book_25 : decode cX12_book 25 = .ok (.aload_n 0, 1) := by decide +kernel
theorem dX12_book_26 : decode cX12_book 26 = .ok (.getfield 43, 3) := by decide +kernel
theorem dX12_book_29 : decode cX12_book 29 = .ok (.aload_n 0, 1) := by decide +kernel
theorem dX12_book_30 : decode cX12_book 30 = .ok (.getfield 28, 3) := by decide +kernel
theorem dX12_book_33 : decode cX12_book 33 = .ok (.getfield 95, 3) := by decide +kernel
theorem dX12_book_36 : decode cX12_book 36 = .ok (.aload_n 0, 1) := by decide +kernel
theorem dX12_book_37 : decode cX12_book 37 = .ok (.getfield 28, 3) := by decide +kernel
theorem dX12_book_40 : decode cX12_book 40 = .ok (.getfield 322, 3) := by decide +kernel
theorem dX12_book_43 : decode cX12_book 43 = .ok (.iload_n 3, 1) := by decide +kernel
theorem dX12_book_44 : decode cX12_book 44 = .ok (.aaload, 1) := by decide +kernel
theorem dX12_book_45 : decode cX12_book 45 = .ok (.invokevirtual 203, 3) := by decide +kernel
theorem dX12_book_48 : decode cX12_book 48 = .ok (.istore 4, 2) := by decide +kernel
theorem dX12_book_50 : decode cX12_book 50 = .ok (.iload_n 1, 1) := by decide +kernel
theorem dX12_book_51 : decode cX12_book 51 = .ok (.ifCond .ne 11, 3) := by decide +kernel
theorem dX12_book_54 : decode cX12_book 54 = .ok (.iload 4, 2) := by decide +kernel
theorem dX12_book_56 : decode cX12_book 56 = .ok (.ifCond .eq 21, 3) := by decide +kernel
theorem dX12_book_59 : decode cX12_book 59 = .ok (.goto 12, 3) := by decide +kernel
theorem dX12_book_62 : decode cX12_book 62 = .ok (.iload 4, 2) := by decide +kernel
theorem dX12_book_64 : decode cX12_book 64 = .ok (.iload_n 1, 1) := by decide +kernel
theorem dX12_book_65 : decode cX12_book 65 = .ok (.ishr, 1) := by decide +kernel
theorem dX12_book_66 : decode cX12_book 66 = .ok (.iconst 1, 1) := by decide +kernel
theorem dX12_book_67 : decode cX12_book 67 = .ok (.iand, 1) := by decide +kernel
theorem dX12_book_68 : decode cX12_book 68 = .ok (.ifCond .eq 9, 3) := by decide +kernel
theorem dX12_book_71 : decode cX12_book 71 = .ok (.iload_n 2, 1) := by decide +kernel
theorem dX12_book_72 : decode cX12_book 72 = .ok (.iconst 1, 1) := by decide +kernel
theorem dX12_book_73 : decode cX12_book 73 = .ok (.iload_n 3, 1) := by decide +kernel
theorem dX12_book_74 : decode cX12_book 74 = .ok (.ishl, 1) := by decide +kernel
theorem dX12_book_75 : decode cX12_book 75 = .ok (.ior, 1) := by decide +kernel
theorem dX12_book_76 : decode cX12_book 76 = .ok (.istore_n 2, 1) := by decide +kernel
theorem dX12_book_77 : decode cX12_book 77 = .ok (.iinc 3 1, 3) := by decide +kernel
theorem dX12_book_80 : decode cX12_book 80 = .ok (.goto (-66), 3) := by decide +kernel
theorem dX12_book_83 : decode cX12_book 83 = .ok (.iload_n 2, 1) := by decide +kernel
theorem dX12_book_84 : decode cX12_book 84 = .ok (.ireturn, 1) := by decide +kernel
theorem dX12_image_0 : decode cX12_image 0 = .ok (.iload_n 1, 1) := by decide +kernel
theorem dX12_image_1 : decode cX12_image 1 = .ok (.ifCond .lt 8, 3) := by decide +kernel
theorem dX12_image_4 : decode cX12_image 4 = .ok (.iload_n 1, 1) := by decide +kernel
theorem dX12_image_5 : decode cX12_image 5 = .ok (.iconst 2, 1) := by decide +kernel
theorem dX12_image_6 : decode cX12_image 6 = .ok (.if_icmp .lt 5, 3) := by decide +kernel
theorem dX12_image_9 : decode cX12_image 9 = .ok (.iconst 0, 1) := by decide +kernel
theorem dX12_image_10 : decode cX12_image 10 = .ok (.ireturn, 1) := by decide +kernel
theorem dX12_image_11 : decode cX12_image 11 = .ok (.aload_n 0, 1) := by decide +kernel
theorem dX12_image_12 : decode cX12_image 12 = .ok (.getfield 32, 3) := by decide +kernel
theorem dX12_image_15 : decode cX12_image 15 = .ok (.iload_n 1, 1) := by decide +kernel
theorem dX12_image_16 : decode cX12_image 16 = .ok (.aaload, 1) := by decide +kernel
theorem dX12_image_17 : decode cX12_image 17 = .ok (.aload_n 0, 1) := by decide +kernel
theorem dX12_image_18 : decode cX12_image 18 = .ok (.getfield 28, 3) := by decide +kernel
theorem dX12_image_21 : decode cX12_image 21 = .ok (.invokevirtual 326, 3) := by decide +kernel
theorem dX12_image_24 : decode cX12_image 24 = .ok (.aload_n 0, 1) := by decide +kernel
theorem dX12_image_25 : decode cX12_image 25 = .ok (.getfield 36, 3) := by decide +kernel
theorem dX12_image_28 : decode cX12_image 28 = .ok (.iload_n 1, 1) := by decide +kernel
theorem dX12_image_29 : decode cX12_image 29 = .ok (.iconst 1, 1) := by decide +kernel
theorem dX12_image_30 : decode cX12_image 30 = .ok (.bastore, 1) := by decide +kernel
theorem dX12_image_31 : decode cX12_image 31 = .ok (.iconst 1, 1) := by decide +kernel
theorem dX12_image_32 : decode cX12_image 32 = .ok (.ireturn, 1) := by decide +kernel
theorem dX12_restore_0 : decode cX12_restore 0 = .ok (.iload_n 1, 1) := by decide +kernel
theorem dX12_restore_1 : decode cX12_restore 1 = .ok (.ifCond .lt 17, 3) := by decide +kernel
theorem dX12_restore_4 : decode cX12_restore 4 = .ok (.iload_n 1, 1) := by decide +kernel
theorem dX12_restore_5 : decode cX12_restore 5 = .ok (.iconst 2, 1) := by decide +kernel
theorem dX12_restore_6 : decode cX12_restore 6 = .ok (.if_icmp .ge 12, 3) := by decide +kernel
theorem dX12_restore_9 : decode cX12_restore 9 = .ok (.aload_n 0, 1) := by decide +kernel
theorem dX12_restore_10 : decode cX12_restore 10 = .ok (.getfield 36, 3) := by decide +kernel
theorem dX12_restore_13 : decode cX12_restore 13 = .ok (.iload_n 1, 1) := by decide +kernel
theorem dX12_restore_14 : decode cX12_restore 14 = .ok (.baload, 1) := by decide +kernel
theorem dX12_restore_15 : decode cX12_restore 15 = .ok (.ifCond .ne 5, 3) := by decide +kernel
theorem dX12_restore_18 : decode cX12_restore 18 = .ok (.iconst 0, 1) := by decide +kernel
theorem dX12_restore_19 : decode cX12_restore 19 = .ok (.ireturn, 1) := by decide +kernel
theorem dX12_restore_20 : decode cX12_restore 20 = .ok (.aload_n 0, 1) := by decide +kernel
theorem dX12_restore_21 : decode cX12_restore 21 = .ok (.getfield 28, 3) := by decide +kernel
theorem dX12_restore_24 : decode cX12_restore 24 = .ok (.aload_n 0, 1) := by decide +kernel
theorem dX12_restore_25 : decode cX12_restore 25 = .ok (.getfield 32, 3) := by decide +kernel
theorem dX12_restore_28 : decode cX12_restore 28 = .ok (.iload_n 1, 1) := by decide +kernel
theorem dX12_restore_29 : decode cX12_restore 29 = .ok (.aaload, 1) := by decide +kernel
theorem dX12_restore_30 : decode cX12_restore 30 = .ok (.invokevirtual 326, 3) := by decide +kernel
theorem dX12_restore_33 : decode cX12_restore 33 = .ok (.iconst 1, 1) := by decide +kernel
theorem dX12_restore_34 : decode cX12_restore 34 = .ok (.ireturn, 1) := by decide +kernel
theorem dX12_count_0 : decode cX12_count 0 = .ok (.iload_n 1, 1) := by decide +kernel
theorem dX12_count_1 : decode cX12_count 1 = .ok (.tableswitch 135 0 7 #[47, 58, 69, 80, 94, 108, 119, 127], 47) := by decide +kernel
theorem dX12_count_48 : decode cX12_count 48 = .ok (.aload_n 0, 1) := by decide +kernel
theorem dX12_count_49 : decode cX12_count 49 = .ok (.getfield 28, 3) := by decide +kernel
theorem dX12_count_52 : decode cX12_count 52 = .ok (.getfield 95, 3) := by decide +kernel
theorem dX12_count_55 : decode cX12_count 55 = .ok (.getfield 329, 3) := by decide +kernel
theorem dX12_count_58 : decode cX12_count 58 = .ok (.ireturn, 1) := by decide +kernel
theorem dX12_count_59 : decode cX12_count 59 = .ok (.aload_n 0, 1) := by decide +kernel
theorem dX12_count_60 : decode cX12_count 60 = .ok (.getfield 28, 3) := by decide +kernel
theorem dX12_count_63 : decode cX12_count 63 = .ok (.getfield 95, 3) := by decide +kernel
theorem dX12_count_66 : decode cX12_count 66 = .ok (.getfield 207, 3) := by decide +kernel
theorem dX12_count_69 : decode cX12_count 69 = .ok (.ireturn, 1) := by decide +kernel
theorem dX12_count_70 : decode cX12_count 70 = .ok (.aload_n 0, 1) := by decide +kernel
theorem dX12_count_71 : decode cX12_count 71 = .ok (.getfield 28, 3) := by decide +kernel
theorem dX12_count_74 : decode cX12_count 74 = .ok (.getfield 95, 3) := by decide +kernel
theorem dX12_count_77 : decode cX12_count 77 = .ok (.getfield 159, 3) := by decide +kernel
theorem dX12_count_80 : decode cX12_count 80 = .ok (.ireturn, 1) := by decide +kernel
theorem dX12_count_81 : decode cX12_count 81 = .ok (.aload_n 0, 1) := by decide +kernel
theorem dX12_count_82 : decode cX12_count 82 = .ok (.getfield 28, 3) := by decide +kernel
theorem dX12_count_85 : decode cX12_count 85 = .ok (.getfield 95, 3) := by decide +kernel
theorem dX12_count_88 : decode cX12_count 88 = .ok (.getfield 210, 3) := by decide +kernel
theorem dX12_count_91 : decode cX12_count 91 = .ok (.getfield 214, 3) := by decide +kernel
theorem dX12_count_94 : decode cX12_count 94 = .ok (.ireturn, 1) := by decide +kernel
theorem dX12_count_95 : decode cX12_count 95 = .ok (.aload_n 0, 1) := by decide +kernel
theorem dX12_count_96 : decode cX12_count 96 = .ok (.getfield 28, 3) := by decide +kernel
theorem dX12_count_99 : decode cX12_count 99 = .ok (.getfield 95, 3) := by decide +kernel
theorem dX12_count_102 : decode cX12_count 102 = .ok (.getfield 210, 3) := by decide +kernel
theorem dX12_count_105 : decode cX12_count 105 = .ok (.getfield 332, 3) := by decide +kernel
theorem dX12_count_108 : decode cX12_count 108 = .ok (.ireturn, 1) := by decide +kernel
theorem dX12_count_109 : decode cX12_count 109 = .ok (.aload_n 0, 1) := by decide +kernel
theorem dX12_count_110 : decode cX12_count 110 = .ok (.getfield 28, 3) := by decide +kernel
theorem dX12_count_113 : decode cX12_count 113 = .ok (.getfield 149, 3) := by decide +kernel
theorem dX12_count_116 : decode cX12_count 116 = .ok (.getfield 74, 3) := by decide +kernel
theorem dX12_count_119 : decode cX12_count 119 = .ok (.ireturn, 1) := by decide +kernel
theorem dX12_count_120 : decode cX12_count 120 = .ok (.aload_n 0, 1) := by decide +kernel
theorem dX12_count_121 : decode cX12_count 121 = .ok (.getfield 28, 3) := by decide +kernel
theorem dX12_count_124 : decode cX12_count 124 = .ok (.getfield 319, 3) := by decide +kernel
theorem dX12_count_127 : decode cX12_count 127 = .ok (.ireturn, 1) := by decide +kernel
theorem dX12_count_128 : decode cX12_count 128 = .ok (.aload_n 0, 1) := by decide +kernel
theorem dX12_count_129 : decode cX12_count 129 = .ok (.getfield 14, 3) := by decide +kernel
theorem dX12_count_132 : decode cX12_count 132 = .ok (.getfield 74, 3) := by decide +kernel
theorem dX12_count_135 : decode cX12_count 135 = .ok (.ireturn, 1) := by decide +kernel
theorem dX12_count_136 : decode cX12_count 136 = .ok (.iconst (-1), 1) := by decide +kernel
theorem dX12_count_137 : decode cX12_count 137 = .ok (.ireturn, 1) := by decide +kernel
theorem dX12_mostSayableWith_0 : decode cX12_mostSayableWith 0 = .ok (.iload_n 2, 1) := by decide +kernel
theorem dX12_mostSayableWith_1 : decode cX12_mostSayableWith 1 = .ok (.iconst 1, 1) := by decide +kernel
theorem dX12_mostSayableWith_2 : decode cX12_mostSayableWith 2 = .ok (.if_icmp .lt 8, 3) := by decide +kernel
theorem dX12_mostSayableWith_5 : decode cX12_mostSayableWith 5 = .ok (.iload_n 2, 1) := by decide +kernel
theorem dX12_mostSayableWith_6 : decode cX12_mostSayableWith 6 = .ok (.iconst 4, 1) := by decide +kernel
theorem dX12_mostSayableWith_7 : decode cX12_mostSayableWith 7 = .ok (.if_icmp .le 5, 3) := by decide +kernel
theorem dX12_mostSayableWith_10 : decode cX12_mostSayableWith 10 = .ok (.iconst (-1), 1) := by decide +kernel
theorem dX12_mostSayableWith_11 : decode cX12_mostSayableWith 11 = .ok (.ireturn, 1) := by decide +kernel
theorem dX12_mostSayableWith_12 : decode cX12_mostSayableWith 12 = .ok (.aload_n 0, 1) := by decide +kernel
theorem dX12_mostSayableWith_13 : decode cX12_mostSayableWith 13 = .ok (.getfield 28, 3) := by decide +kernel
theorem dX12_mostSayableWith_16 : decode cX12_mostSayableWith 16 = .ok (.getfield 95, 3) := by decide +kernel
theorem dX12_mostSayableWith_19 : decode cX12_mostSayableWith 19 = .ok (.astore_n 3, 1) := by decide +kernel
theorem dX12_mostSayableWith_20 : decode cX12_mostSayableWith 20 = .ok (.aload_n 0, 1) := by decide +kernel
theorem dX12_mostSayableWith_21 : decode cX12_mostSayableWith 21 = .ok (.getfield 50, 3) := by decide +kernel
theorem dX12_mostSayableWith_24 : decode cX12_mostSayableWith 24 = .ok (.aload_n 3, 1) := by decide +kernel
theorem dX12_mostSayableWith_25 : decode cX12_mostSayableWith 25 = .ok (.iload_n 2, 1) := by decide +kernel
theorem dX12_mostSayableWith_26 : decode cX12_mostSayableWith 26 = .ok (.invokevirtual 271, 3) := by decide +kernel
theorem dX12_mostSayableWith_29 : decode cX12_mostSayableWith 29 = .ok (.invokestatic 125, 3) := by decide +kernel
theorem dX12_mostSayableWith_32 : decode cX12_mostSayableWith 32 = .ok (.istore 4, 2) := by decide +kernel
theorem dX12_mostSayableWith_34 : decode cX12_mostSayableWith 34 = .ok (.iconst (-1), 1) := by decide +kernel
theorem dX12_mostSayableWith_35 : decode cX12_mostSayableWith 35 = .ok (.istore 5, 2) := by decide +kernel
theorem dX12_mostSayableWith_37 : decode cX12_mostSayableWith 37 = .ok (.iload_n 1, 1) := by decide +kernel
theorem dX12_mostSayableWith_38 : decode cX12_mostSayableWith 38 = .ok (.ifCond .eq 10, 3) := by decide +kernel
theorem dX12_mostSayableWith_41 : decode cX12_mostSayableWith 41 = .ok (.aload_n 3, 1) := by decide +kernel
theorem dX12_mostSayableWith_42 : decode cX12_mostSayableWith 42 = .ok (.getfield 329, 3) := by decide +kernel
theorem dX12_mostSayableWith_45 : decode cX12_mostSayableWith 45 = .ok (.goto 7, 3) := by decide +kernel
theorem dX12_mostSayableWith_48 : decode cX12_mostSayableWith 48 = .ok (.aload_n 3, 1) := by decide +kernel
theorem dX12_mostSayableWith_49 : decode cX12_mostSayableWith 49 = .ok (.getfield 159, 3) := by decide +kernel
theorem dX12_mostSayableWith_52 : decode cX12_mostSayableWith 52 = .ok (.istore 6, 2) := by decide +kernel
theorem dX12_mostSayableWith_54 : decode cX12_mostSayableWith 54 = .ok (.iconst 0, 1) := by decide +kernel
theorem dX12_mostSayableWith_55 : decode cX12_mostSayableWith 55 = .ok (.istore 7, 2) := by decide +kernel
theorem dX12_mostSayableWith_57 : decode cX12_mostSayableWith 57 = .ok (.iload 7, 2) := by decide +kernel
theorem dX12_mostSayableWith_59 : decode cX12_mostSayableWith 59 = .ok (.iload 6, 2) := by decide +kernel
theorem dX12_mostSayableWith_61 : decode cX12_mostSayableWith 61 = .ok (.if_icmp .ge 102, 3) := by decide +kernel
theorem dX12_mostSayableWith_64 : decode cX12_mostSayableWith 64 = .ok (.iconst 0, 1) := by decide +kernel
theorem dX12_mostSayableWith_65 : decode cX12_mostSayableWith 65 = .ok (.istore 8, 2) := by decide +kernel
theorem dX12_mostSayableWith_67 : decode cX12_mostSayableWith 67 = .ok (.iload 8, 2) := by decide +kernel
theorem dX12_mostSayableWith_69 : decode cX12_mostSayableWith 69 = .ok (.aload_n 3, 1) := by decide +kernel
theorem dX12_mostSayableWith_70 : decode cX12_mostSayableWith 70 = .ok (.getfield 329, 3) := by decide +kernel
theorem dX12_mostSayableWith_73 : decode cX12_mostSayableWith 73 = .ok (.if_icmp .ge 84, 3) := by decide +kernel
theorem dX12_mostSayableWith_76 : decode cX12_mostSayableWith 76 = .ok (.aload_n 3, 1) := by decide +kernel
theorem dX12_mostSayableWith_77 : decode cX12_mostSayableWith 77 = .ok (.iload_n 1, 1) := by decide +kernel
theorem dX12_mostSayableWith_78 : decode cX12_mostSayableWith 78 = .ok (.iload 7, 2) := by decide +kernel
theorem dX12_mostSayableWith_80 : decode cX12_mostSayableWith 80 = .ok (.iload 8, 2) := by decide +kernel
theorem dX12_mostSayableWith_82 : decode cX12_mostSayableWith 82 = .ok (.invokevirtual 335, 3) := by decide +kernel
theorem dX12_mostSayableWith_85 : decode cX12_mostSayableWith 85 = .ok (.ifCond .ne 66, 3) := by decide +kernel
theorem dX12_mostSayableWith_88 : decode cX12_mostSayableWith 88 = .ok (.aload_n 3, 1) := by decide +kernel
theorem dX12_mostSayableWith_89 : decode cX12_mostSayableWith 89 = .ok (.iload_n 1, 1) := by decide +kernel
theorem dX12_mostSayableWith_90 : decode cX12_mostSayableWith 90 = .ok (.iload 7, 2) := by decide +kernel
theorem dX12_mostSayableWith_92 : decode cX12_mostSayableWith 92 = .ok (.iload 8, 2) := by decide +kernel
theorem dX12_mostSayableWith_94 : decode cX12_mostSayableWith 94 = .ok (.invokevirtual 339, 3) := by decide +kernel
theorem dX12_mostSayableWith_97 : decode cX12_mostSayableWith 97 = .ok (.aload_n 0, 1) := by decide +kernel
theorem dX12_mostSayableWith_98 : decode cX12_mostSayableWith 98 = .ok (.getfield 50, 3) := by decide +kernel
theorem dX12_mostSayableWith_101 : decode cX12_mostSayableWith 101 = .ok (.aload_n 3, 1) := by decide +kernel
theorem dX12_mostSayableWith_102 : decode cX12_mostSayableWith 102 = .ok (.iload_n 2, 1) := by decide +kernel
theorem dX12_mostSayableWith_103 : decode cX12_mostSayableWith 103 = .ok (.invokevirtual 271, 3) := by decide +kernel
theorem dX12_mostSayableWith_106 : decode cX12_mostSayableWith 106 = .ok (.invokestatic 125, 3) := by decide +kernel
theorem dX12_mostSayableWith_109 : decode cX12_mostSayableWith 109 = .ok (.istore 9, 2) := by decide +kernel
theorem dX12_mostSayableWith_111 : decode cX12_mostSayableWith 111 = .ok (.aload_n 3, 1) := by decide +kernel
theorem dX12_mostSayableWith_112 : decode cX12_mostSayableWith 112 = .ok (.iload_n 1, 1) := by decide +kernel
theorem dX12_mostSayableWith_113 : decode cX12_mostSayableWith 113 = .ok (.iload 7, 2) := by decide +kernel
theorem dX12_mostSayableWith_115 : decode cX12_mostSayableWith 115 = .ok (.iload 8, 2) := by decide +kernel
theorem dX12_mostSayableWith_117 : decode cX12_mostSayableWith 117 = .ok (.invokevirtual 339, 3) := by decide +kernel
theorem dX12_mostSayableWith_120 : decode cX12_mostSayableWith 120 = .ok (.iload 9, 2) := by decide +kernel
theorem dX12_mostSayableWith_122 : decode cX12_mostSayableWith 122 = .ok (.iload 4, 2) := by decide +kernel
theorem dX12_mostSayableWith_124 : decode cX12_mostSayableWith 124 = .ok (.if_icmp .le 14, 3) := by decide +kernel
theorem dX12_mostSayableWith_127 : decode cX12_mostSayableWith 127 = .ok (.bipush 10, 2) := by decide +kernel
theorem dX12_mostSayableWith_129 : decode cX12_mostSayableWith 129 = .ok (.iload 7, 2) := by decide +kernel
theorem dX12_mostSayableWith_131 : decode cX12_mostSayableWith 131 = .ok (.imul, 1) := by decide +kernel
theorem dX12_mostSayableWith_132 : decode cX12_mostSayableWith 132 = .ok (.iload 8, 2) := by decide +kernel
theorem dX12_mostSayableWith_134 : decode cX12_mostSayableWith 134 = .ok (.iadd, 1) := by decide +kernel
theorem dX12_mostSayableWith_135 : decode cX12_mostSayableWith 135 = .ok (.goto 5, 3) := by decide +kernel
theorem dX12_mostSayableWith_138 : decode cX12_mostSayableWith 138 = .ok (.iload 5, 2) := by decide +kernel
theorem dX12_mostSayableWith_140 : decode cX12_mostSayableWith 140 = .ok (.istore 5, 2) := by decide +kernel
theorem dX12_mostSayableWith_142 : decode cX12_mostSayableWith 142 = .ok (.iload 4, 2) := by decide +kernel
theorem dX12_mostSayableWith_144 : decode cX12_mostSayableWith 144 = .ok (.iload 9, 2) := by decide +kernel
theorem dX12_mostSayableWith_146 : decode cX12_mostSayableWith 146 = .ok (.invokestatic 343, 3) := by decide +kernel
theorem dX12_mostSayableWith_149 : decode cX12_mostSayableWith 149 = .ok (.istore 4, 2) := by decide +kernel
theorem dX12_mostSayableWith_151 : decode cX12_mostSayableWith 151 = .ok (.iinc 8 1, 3) := by decide +kernel
theorem dX12_mostSayableWith_154 : decode cX12_mostSayableWith 154 = .ok (.goto (-87), 3) := by decide +kernel
theorem dX12_mostSayableWith_157 : decode cX12_mostSayableWith 157 = .ok (.iinc 7 1, 3) := by decide +kernel
theorem dX12_mostSayableWith_160 : decode cX12_mostSayableWith 160 = .ok (.goto (-103), 3) := by decide +kernel
theorem dX12_mostSayableWith_163 : decode cX12_mostSayableWith 163 = .ok (.iload 5, 2) := by decide +kernel
theorem dX12_mostSayableWith_165 : decode cX12_mostSayableWith 165 = .ok (.ireturn, 1) := by decide +kernel
theorem dX12_putBytes_0 : decode cX12_putBytes 0 = .ok (.bipush 24, 2) := by decide +kernel
theorem dX12_putBytes_2 : decode cX12_putBytes 2 = .ok (.istore_n 2, 1) := by decide +kernel
theorem dX12_putBytes_3 : decode cX12_putBytes 3 = .ok (.iload_n 2, 1) := by decide +kernel
theorem dX12_putBytes_4 : decode cX12_putBytes 4 = .ok (.ifCond .lt 23, 3) := by decide +kernel
theorem dX12_putBytes_7 : decode cX12_putBytes 7 = .ok (.aload_n 0, 1) := by decide +kernel
theorem dX12_putBytes_8 : decode cX12_putBytes 8 = .ok (.getfield 14, 3) := by decide +kernel
theorem dX12_putBytes_11 : decode cX12_putBytes 11 = .ok (.iload_n 1, 1) := by decide +kernel
theorem dX12_putBytes_12 : decode cX12_putBytes 12 = .ok (.iload_n 2, 1) := by decide +kernel
theorem dX12_putBytes_13 : decode cX12_putBytes 13 = .ok (.iushr, 1) := by decide +kernel
theorem dX12_putBytes_14 : decode cX12_putBytes 14 = .ok (.sipush 255, 3) := by decide +kernel
theorem dX12_putBytes_17 : decode cX12_putBytes 17 = .ok (.iand, 1) := by decide +kernel
theorem dX12_putBytes_18 : decode cX12_putBytes 18 = .ok (.invokevirtual 173, 3) := by decide +kernel
theorem dX12_putBytes_21 : decode cX12_putBytes 21 = .ok (.iinc 2 (-8), 3) := by decide +kernel
theorem dX12_putBytes_24 : decode cX12_putBytes 24 = .ok (.goto (-21), 3) := by decide +kernel
theorem dX12_putBytes_27 : decode cX12_putBytes 27 = .ok (.return_, 1) := by decide +kernel
theorem dX12_findWithBeats_0 : decode cX12_findWithBeats 0 = .ok (.aload_n 0, 1) := by decide +kernel
theorem dX12_findWithBeats_1 : decode cX12_findWithBeats 1 = .ok (.invokevirtual 252, 3) := by decide +kernel
theorem dX12_findWithBeats_4 : decode cX12_findWithBeats 4 = .ok (.ifCond .eq 14, 3) := by decide +kernel
theorem dX12_findWithBeats_7 : decode cX12_findWithBeats 7 = .ok (.iload_n 2, 1) := by decide +kernel
theorem dX12_findWithBeats_8 : decode cX12_findWithBeats 8 = .ok (.iconst 1, 1) := by decide +kernel
theorem dX12_findWithBeats_9 : decode cX12_findWithBeats 9 = .ok (.if_icmp .lt 9, 3) := by decide +kernel
theorem dX12_findWithBeats_12 : decode cX12_findWithBeats 12 = .ok (.iload_n 2, 1) := by decide +kernel
theorem dX12_findWithBeats_13 : decode cX12_findWithBeats 13 = .ok (.bipush 6, 2) := by decide +kernel
theorem dX12_findWithBeats_15 : decode cX12_findWithBeats 15 = .ok (.if_icmp .le 6, 3) := by decide +kernel
theorem dX12_findWithBeats_18 : decode cX12_findWithBeats 18 = .ok (.bipush (-2), 2) := by decide +kernel
theorem dX12_findWithBeats_20 : decode cX12_findWithBeats 20 = .ok (.ireturn, 1) := by decide +kernel
theorem dX12_findWithBeats_21 : decode cX12_findWithBeats 21 = .ok (.aload_n 0, 1) := by decide +kernel
theorem dX12_findWithBeats_22 : decode cX12_findWithBeats 22 = .ok (.getfield 50, 3) := by decide +kernel
theorem dX12_findWithBeats_25 : decode cX12_findWithBeats 25 = .ok (.iload_n 1, 1) := by decide +kernel
theorem dX12_findWithBeats_26 : decode cX12_findWithBeats 26 = .ok (.invokevirtual 348, 3) := by decide +kernel
theorem dX12_findWithBeats_29 : decode cX12_findWithBeats 29 = .ok (.aload_n 0, 1) := by decide +kernel
theorem dX12_findWithBeats_30 : decode cX12_findWithBeats 30 = .ok (.getfield 50, 3) := by decide +kernel
theorem dX12_findWithBeats_33 : decode cX12_findWithBeats 33 = .ok (.aload_n 0, 1) := by decide +kernel
theorem dX12_findWithBeats_34 : decode cX12_findWithBeats 34 = .ok (.getfield 28, 3) := by decide +kernel
theorem dX12_findWithBeats_37 : decode cX12_findWithBeats 37 = .ok (.getfield 95, 3) := by decide +kernel
theorem dX12_findWithBeats_40 : decode cX12_findWithBeats 40 = .ok (.aload_n 0, 1) := by decide +kernel
theorem dX12_findWithBeats_41 : decode cX12_findWithBeats 41 = .ok (.getfield 28, 3) := by decide +kernel
theorem dX12_findWithBeats_44 : decode cX12_findWithBeats 44 = .ok (.getfield 95, 3) := by decide +kernel
theorem dX12_findWithBeats_47 : decode cX12_findWithBeats 47 = .ok (.getfield 210, 3) := by decide +kernel
theorem dX12_findWithBeats_50 : decode cX12_findWithBeats 50 = .ok (.iload_n 2, 1) := by decide +kernel
theorem dX12_findWithBeats_51 : decode cX12_findWithBeats 51 = .ok (.invokevirtual 267, 3) := by decide +kernel
theorem dX12_findWithBeats_54 : decode cX12_findWithBeats 54 = .ok (.istore_n 3, 1) := by decide +kernel
theorem dX12_findWithBeats_55 : decode cX12_findWithBeats 55 = .ok (.aload_n 0, 1) := by decide +kernel
theorem dX12_findWithBeats_56 : decode cX12_findWithBeats 56 = .ok (.getfield 50, 3) := by decide +kernel
theorem dX12_findWithBeats_59 : decode cX12_findWithBeats 59 = .ok (.iconst (-1), 1) := by decide +kernel
theorem dX12_findWithBeats_60 : decode cX12_findWithBeats 60 = .ok (.invokevirtual 348, 3) := by decide +kernel
theorem dX12_findWithBeats_63 : decode cX12_findWithBeats 63 = .ok (.iload_n 3, 1) := by decide +kernel
theorem dX12_findWithBeats_64 : decode cX12_findWithBeats 64 = .ok (.ifCond .le 17, 3) := by decide +kernel
theorem dX12_findWithBeats_67 : decode cX12_findWithBeats 67 = .ok (.aload_n 0, 1) := by decide +kernel
theorem dX12_findWithBeats_68 : decode cX12_findWithBeats 68 = .ok (.getfield 61, 3) := by decide +kernel
theorem dX12_findWithBeats_71 : decode cX12_findWithBeats 71 = .ok (.aload_n 0, 1) := by decide +kernel
theorem dX12_findWithBeats_72 : decode cX12_findWithBeats 72 = .ok (.getfield 50, 3) := by decide +kernel
theorem dX12_findWithBeats_75 : decode cX12_findWithBeats 75 = .ok (.invokevirtual 285, 3) := by decide +kernel
theorem dX12_findWithBeats_78 : decode cX12_findWithBeats 78 = .ok (.invokevirtual 152, 3) := by decide +kernel
theorem dX12_findWithBeats_81 : decode cX12_findWithBeats 81 = .ok (.iload_n 3, 1) := by decide +kernel
theorem dX12_findWithBeats_82 : decode cX12_findWithBeats 82 = .ok (.ireturn, 1) := by decide +kernel
theorem dX12_goalsFromTape_0 : decode cX12_goalsFromTape 0 = .ok (.aload_n 0, 1) := by decide +kernel
theorem dX12_goalsFromTape_1 : decode cX12_goalsFromTape 1 = .ok (.getfield 14, 3) := by decide +kernel
theorem dX12_goalsFromTape_4 : decode cX12_goalsFromTape 4 = .ok (.getfield 74, 3) := by decide +kernel
theorem dX12_goalsFromTape_7 : decode cX12_goalsFromTape 7 = .ok (.istore_n 1, 1) := by decide +kernel
theorem dX12_goalsFromTape_8 : decode cX12_goalsFromTape 8 = .ok (.aload_n 0, 1) := by decide +kernel
theorem dX12_goalsFromTape_9 : decode cX12_goalsFromTape 9 = .ok (.getfield 14, 3) := by decide +kernel
theorem dX12_goalsFromTape_12 : decode cX12_goalsFromTape 12 = .ok (.iconst 0, 1) := by decide +kernel
theorem dX12_goalsFromTape_13 : decode cX12_goalsFromTape 13 = .ok (.putfield 74, 3) := by decide +kernel
theorem dX12_goalsFromTape_16 : decode cX12_goalsFromTape 16 = .ok (.iload_n 1, 1) := by decide +kernel
theorem dX12_goalsFromTape_17 : decode cX12_goalsFromTape 17 = .ok (.aload_n 0, 1) := by decide +kernel
theorem dX12_goalsFromTape_18 : decode cX12_goalsFromTape 18 = .ok (.getfield 28, 3) := by decide +kernel
theorem dX12_goalsFromTape_21 : decode cX12_goalsFromTape 21 = .ok (.getfield 95, 3) := by decide +kernel
theorem dX12_goalsFromTape_24 : decode cX12_goalsFromTape 24 = .ok (.getfield 210, 3) := by decide +kernel
theorem dX12_goalsFromTape_27 : decode cX12_goalsFromTape 27 = .ok (.getfield 214, 3) := by decide +kernel
theorem dX12_goalsFromTape_30 : decode cX12_goalsFromTape 30 = .ok (.iconst 1, 1) := by decide +kernel
theorem dX12_goalsFromTape_31 : decode cX12_goalsFromTape 31 = .ok (.iadd, 1) := by decide +kernel
theorem dX12_goalsFromTape_32 : decode cX12_goalsFromTape 32 = .ok (.if_icmp .ne 16, 3) := by decide +kernel
theorem dX12_goalsFromTape_35 : decode cX12_goalsFromTape 35 = .ok (.aload_n 0, 1) := by decide +kernel
theorem dX12_goalsFromTape_36 : decode cX12_goalsFromTape 36 = .ok (.getfield 28, 3) := by decide +kernel
theorem dX12_goalsFromTape_39 : decode cX12_goalsFromTape 39 = .ok (.getfield 95, 3) := by decide +kernel
theorem dX12_goalsFromTape_42 : decode cX12_goalsFromTape 42 = .ok (.getfield 159, 3) := by decide +kernel
theorem dX12_goalsFromTape_45 : decode cX12_goalsFromTape 45 = .ok (.ifCond .ne 5, 3) := by decide +kernel
theorem dX12_goalsFromTape_48 : decode cX12_goalsFromTape 48 = .ok (.iconst 0, 1) := by decide +kernel
theorem dX12_goalsFromTape_49 : decode cX12_goalsFromTape 49 = .ok (.ireturn, 1) := by decide +kernel
theorem dX12_goalsFromTape_50 : decode cX12_goalsFromTape 50 = .ok (.iconst 0, 1) := by decide +kernel
theorem dX12_goalsFromTape_51 : decode cX12_goalsFromTape 51 = .ok (.istore_n 2, 1) := by decide +kernel
theorem dX12_goalsFromTape_52 : decode cX12_goalsFromTape 52 = .ok (.iload_n 2, 1) := by decide +kernel
theorem dX12_goalsFromTape_53 : decode cX12_goalsFromTape 53 = .ok (.iload_n 1, 1) := by decide +kernel
theorem dX12_goalsFromTape_54 : decode cX12_goalsFromTape 54 = .ok (.if_icmp .ge 42, 3) := by decide +kernel
theorem dX12_goalsFromTape_57 : decode cX12_goalsFromTape 57 = .ok (.aload_n 0, 1) := by decide +kernel
theorem dX12_goalsFromTape_58 : decode cX12_goalsFromTape 58 = .ok (.getfield 14, 3) := by decide +kernel
theorem dX12_goalsFromTape_61 : decode cX12_goalsFromTape 61 = .ok (.getfield 226, 3) := by decide +kernel
theorem dX12_goalsFromTape_64 : decode cX12_goalsFromTape 64 = .ok (.iload_n 2, 1) := by decide +kernel
theorem dX12_goalsFromTape_65 : decode cX12_goalsFromTape 65 = .ok (.iaload, 1) := by decide +kernel
theorem dX12_goalsFromTape_66 : decode cX12_goalsFromTape 66 = .ok (.bipush 9, 2) := by decide +kernel
theorem dX12_goalsFromTape_68 : decode cX12_goalsFromTape 68 = .ok (.if_icmp .le 5, 3) := by decide +kernel
theorem dX12_goalsFromTape_71 : decode cX12_goalsFromTape 71 = .ok (.iconst 0, 1) := by decide +kernel
theorem dX12_goalsFromTape_72 : decode cX12_goalsFromTape 72 = .ok (.ireturn, 1) := by decide +kernel
theorem dX12_goalsFromTape_73 : decode cX12_goalsFromTape 73 = .ok (.aload_n 0, 1) := by decide +kernel
theorem dX12_goalsFromTape_74 : decode cX12_goalsFromTape 74 = .ok (.getfield 50, 3) := by decide +kernel
theorem dX12_goalsFromTape_77 : decode cX12_goalsFromTape 77 = .ok (.iload_n 2, 1) := by decide +kernel
theorem dX12_goalsFromTape_78 : decode cX12_goalsFromTape 78 = .ok (.aload_n 0, 1) := by decide +kernel
theorem dX12_goalsFromTape_79 : decode cX12_goalsFromTape 79 = .ok (.getfield 14, 3) := by decide +kernel
theorem dX12_goalsFromTape_82 : decode cX12_goalsFromTape 82 = .ok (.getfield 226, 3) := by decide +kernel
theorem dX12_goalsFromTape_85 : decode cX12_goalsFromTape 85 = .ok (.iload_n 2, 1) := by decide +kernel
theorem dX12_goalsFromTape_86 : decode cX12_goalsFromTape 86 = .ok (.iaload, 1) := by decide +kernel
theorem dX12_goalsFromTape_87 : decode cX12_goalsFromTape 87 = .ok (.invokevirtual 351, 3) := by decide +kernel
theorem dX12_goalsFromTape_90 : decode cX12_goalsFromTape 90 = .ok (.iinc 2 1, 3) := by decide +kernel
theorem dX12_goalsFromTape_93 : decode cX12_goalsFromTape 93 = .ok (.goto (-41), 3) := by decide +kernel
theorem dX12_goalsFromTape_96 : decode cX12_goalsFromTape 96 = .ok (.iconst 1, 1) := by decide +kernel
theorem dX12_goalsFromTape_97 : decode cX12_goalsFromTape 97 = .ok (.ireturn, 1) := by decide +kernel
theorem dX12_rowFromTape_0 : decode cX12_rowFromTape 0 = .ok (.aload_n 0, 1) := by decide +kernel
theorem dX12_rowFromTape_1 : decode cX12_rowFromTape 1 = .ok (.getfield 14, 3) := by decide +kernel
theorem dX12_rowFromTape_4 : decode cX12_rowFromTape 4 = .ok (.getfield 74, 3) := by decide +kernel
theorem dX12_rowFromTape_7 : decode cX12_rowFromTape 7 = .ok (.istore_n 2, 1) := by decide +kernel
theorem dX12_rowFromTape_8 : decode cX12_rowFromTape 8 = .ok (.aload_n 0, 1) := by decide +kernel
theorem dX12_rowFromTape_9 : decode cX12_rowFromTape 9 = .ok (.getfield 14, 3) := by decide +kernel
theorem dX12_rowFromTape_12 : decode cX12_rowFromTape 12 = .ok (.iconst 0, 1) := by decide +kernel
theorem dX12_rowFromTape_13 : decode cX12_rowFromTape 13 = .ok (.putfield 74, 3) := by decide +kernel
theorem dX12_rowFromTape_16 : decode cX12_rowFromTape 16 = .ok (.aload_n 0, 1) := by decide +kernel
theorem dX12_rowFromTape_17 : decode cX12_rowFromTape 17 = .ok (.getfield 71, 3) := by decide +kernel
theorem dX12_rowFromTape_20 : decode cX12_rowFromTape 20 = .ok (.iconst 0, 1) := by decide +kernel
theorem dX12_rowFromTape_21 : decode cX12_rowFromTape 21 = .ok (.putfield 74, 3) := by decide +kernel
theorem dX12_rowFromTape_24 : decode cX12_rowFromTape 24 = .ok (.iload_n 2, 1) := by decide +kernel
theorem dX12_rowFromTape_25 : decode cX12_rowFromTape 25 = .ok (.iload_n 1, 1) := by decide +kernel
theorem dX12_rowFromTape_26 : decode cX12_rowFromTape 26 = .ok (.if_icmp .le 5, 3) := by decide +kernel
theorem dX12_rowFromTape_29 : decode cX12_rowFromTape 29 = .ok (.iconst 0, 1) := by decide +kernel
theorem dX12_rowFromTape_30 : decode cX12_rowFromTape 30 = .ok (.ireturn, 1) := by decide +kernel
theorem dX12_rowFromTape_31 : decode cX12_rowFromTape 31 = .ok (.iconst 0, 1) := by decide +kernel
theorem dX12_rowFromTape_32 : decode cX12_rowFromTape 32 = .ok (.istore_n 3, 1) := by decide +kernel
theorem dX12_rowFromTape_33 : decode cX12_rowFromTape 33 = .ok (.iload_n 3, 1) := by decide +kernel
theorem dX12_rowFromTape_34 : decode cX12_rowFromTape 34 = .ok (.iload_n 2, 1) := by decide +kernel
theorem dX12_rowFromTape_35 : decode cX12_rowFromTape 35 = .ok (.if_icmp .ge 49, 3) := by decide +kernel
theorem dX12_rowFromTape_38 : decode cX12_rowFromTape 38 = .ok (.aload_n 0, 1) := by decide +kernel
theorem dX12_rowFromTape_39 : decode cX12_rowFromTape 39 = .ok (.getfield 28, 3) := by decide +kernel
theorem dX12_rowFromTape_42 : decode cX12_rowFromTape 42 = .ok (.getfield 95, 3) := by decide +kernel
theorem dX12_rowFromTape_45 : decode cX12_rowFromTape 45 = .ok (.aload_n 0, 1) := by decide +kernel
theorem dX12_rowFromTape_46 : decode cX12_rowFromTape 46 = .ok (.getfield 14, 3) := by decide +kernel
theorem dX12_rowFromTape_49 : decode cX12_rowFromTape 49 = .ok (.getfield 226, 3) := by decide +kernel
theorem dX12_rowFromTape_52 : decode cX12_rowFromTape 52 = .ok (.iload_n 3, 1) := by decide +kernel
theorem dX12_rowFromTape_53 : decode cX12_rowFromTape 53 = .ok (.iaload, 1) := by decide +kernel
theorem dX12_rowFromTape_54 : decode cX12_rowFromTape 54 = .ok (.invokevirtual 98, 3) := by decide +kernel
theorem dX12_rowFromTape_57 : decode cX12_rowFromTape 57 = .ok (.ifCond .ne 5, 3) := by decide +kernel
theorem dX12_rowFromTape_60 : decode cX12_rowFromTape 60 = .ok (.iconst 0, 1) := by decide +kernel
theorem dX12_rowFromTape_61 : decode cX12_rowFromTape 61 = .ok (.ireturn, 1) := by decide +kernel
theorem dX12_rowFromTape_62 : decode cX12_rowFromTape 62 = .ok (.aload_n 0, 1) := by decide +kernel
theorem dX12_rowFromTape_63 : decode cX12_rowFromTape 63 = .ok (.getfield 71, 3) := by decide +kernel
theorem dX12_rowFromTape_66 : decode cX12_rowFromTape 66 = .ok (.aload_n 0, 1) := by decide +kernel
theorem dX12_rowFromTape_67 : decode cX12_rowFromTape 67 = .ok (.getfield 14, 3) := by decide +kernel
theorem dX12_rowFromTape_70 : decode cX12_rowFromTape 70 = .ok (.getfield 226, 3) := by decide +kernel
theorem dX12_rowFromTape_73 : decode cX12_rowFromTape 73 = .ok (.iload_n 3, 1) := by decide +kernel
theorem dX12_rowFromTape_74 : decode cX12_rowFromTape 74 = .ok (.iaload, 1) := by decide +kernel
theorem dX12_rowFromTape_75 : decode cX12_rowFromTape 75 = .ok (.invokevirtual 173, 3) := by decide +kernel
theorem dX12_rowFromTape_78 : decode cX12_rowFromTape 78 = .ok (.iinc 3 1, 3) := by decide +kernel
theorem dX12_rowFromTape_81 : decode cX12_rowFromTape 81 = .ok (.goto (-48), 3) := by decide +kernel
theorem dX12_rowFromTape_84 : decode cX12_rowFromTape 84 = .ok (.iconst 1, 1) := by decide +kernel
theorem dX12_rowFromTape_85 : decode cX12_rowFromTape 85 = .ok (.ireturn, 1) := by decide +kernel
theorem dX12_isBeginning_0 : decode cX12_isBeginning 0 = .ok (.iload_n 1, 1) := by decide +kernel
theorem dX12_isBeginning_1 : decode cX12_isBeginning 1 = .ok (.iconst 1, 1) := by decide +kernel
theorem dX12_isBeginning_2 : decode cX12_isBeginning 2 = .ok (.if_icmp .lt 24, 3) := by decide +kernel
theorem dX12_isBeginning_5 : decode cX12_isBeginning 5 = .ok (.iload_n 1, 1) := by decide +kernel
theorem dX12_isBeginning_6 : decode cX12_isBeginning 6 = .ok (.aload_n 0, 1) := by decide +kernel
theorem dX12_isBeginning_7 : decode cX12_isBeginning 7 = .ok (.getfield 28, 3) := by decide +kernel
theorem dX12_isBeginning_10 : decode cX12_isBeginning 10 = .ok (.getfield 95, 3) := by decide +kernel
theorem dX12_isBeginning_13 : decode cX12_isBeginning 13 = .ok (.getfield 210, 3) := by decide +kernel
theorem dX12_isBeginning_16 : decode cX12_isBeginning 16 = .ok (.getfield 214, 3) := by decide +kernel
theorem dX12_isBeginning_19 : decode cX12_isBeginning 19 = .ok (.if_icmp .gt 7, 3) := by decide +kernel
theorem dX12_isBeginning_22 : decode cX12_isBeginning 22 = .ok (.iconst 1, 1) := by decide +kernel
theorem dX12_isBeginning_23 : decode cX12_isBeginning 23 = .ok (.goto 4, 3) := by decide +kernel
theorem dX12_isBeginning_26 : decode cX12_isBeginning 26 = .ok (.iconst 0, 1) := by decide +kernel
theorem dX12_isBeginning_27 : decode cX12_isBeginning 27 = .ok (.ireturn, 1) := by decide +kernel
theorem dX12_isBeginningOrAll_0 : decode cX12_isBeginningOrAll 0 = .ok (.iload_n 1, 1) := by decide +kernel
theorem dX12_isBeginningOrAll_1 : decode cX12_isBeginningOrAll 1 = .ok (.ifCond .eq 11, 3) := by decide +kernel
theorem dX12_isBeginningOrAll_4 : decode cX12_isBeginningOrAll 4 = .ok (.aload_n 0, 1) := by decide +kernel
theorem dX12_isBeginningOrAll_5 : decode cX12_isBeginningOrAll 5 = .ok (.iload_n 1, 1) := by decide +kernel
theorem dX12_isBeginningOrAll_6 : decode cX12_isBeginningOrAll 6 = .ok (.invokevirtual 223, 3) := by decide +kernel
theorem dX12_isBeginningOrAll_9 : decode cX12_isBeginningOrAll 9 = .ok (.ifCond .eq 7, 3) := by decide +kernel
theorem dX12_isBeginningOrAll_12 : decode cX12_isBeginningOrAll 12 = .ok (.iconst 1, 1) := by decide +kernel
theorem dX12_isBeginningOrAll_13 : decode cX12_isBeginningOrAll 13 = .ok (.goto 4, 3) := by decide +kernel
theorem dX12_isBeginningOrAll_16 : decode cX12_isBeginningOrAll 16 = .ok (.iconst 0, 1) := by decide +kernel
theorem dX12_isBeginningOrAll_17 : decode cX12_isBeginningOrAll 17 = .ok (.ireturn, 1) := by decide +kernel
theorem dX12_isMeaning_0 : decode cX12_isMeaning 0 = .ok (.iload_n 0, 1) := by decide +kernel
theorem dX12_isMeaning_1 : decode cX12_isMeaning 1 = .ok (.ifCond .lt 13, 3) := by decide +kernel
theorem dX12_isMeaning_4 : decode cX12_isMeaning 4 = .ok (.iload_n 0, 1) := by decide +kernel
theorem dX12_isMeaning_5 : decode cX12_isMeaning 5 = .ok (.bipush 8, 2) := by decide +kernel
theorem dX12_isMeaning_7 : decode cX12_isMeaning 7 = .ok (.if_icmp .ge 7, 3) := by decide +kernel
theorem dX12_isMeaning_10 : decode cX12_isMeaning 10 = .ok (.iconst 1, 1) := by decide +kernel
theorem dX12_isMeaning_11 : decode cX12_isMeaning 11 = .ok (.goto 4, 3) := by decide +kernel
theorem dX12_isMeaning_14 : decode cX12_isMeaning 14 = .ok (.iconst 0, 1) := by decide +kernel
theorem dX12_isMeaning_15 : decode cX12_isMeaning 15 = .ok (.ireturn, 1) := by decide +kernel
theorem dX12_areAgainst_0 : decode cX12_areAgainst 0 = .ok (.iload_n 0, 1) := by decide +kernel
theorem dX12_areAgainst_1 : decode cX12_areAgainst 1 = .ok (.ifCond .eq 7, 3) := by decide +kernel
theorem dX12_areAgainst_4 : decode cX12_areAgainst 4 = .ok (.iload_n 1, 1) := by decide +kernel
theorem dX12_areAgainst_5 : decode cX12_areAgainst 5 = .ok (.ifCond .ne 5, 3) := by decide +kernel
theorem dX12_areAgainst_8 : decode cX12_areAgainst 8 = .ok (.iconst 0, 1) := by decide +kernel
theorem dX12_areAgainst_9 : decode cX12_areAgainst 9 = .ok (.ireturn, 1) := by decide +kernel
theorem dX12_areAgainst_10 : decode cX12_areAgainst 10 = .ok (.iload_n 2, 1) := by decide +kernel
theorem dX12_areAgainst_11 : decode cX12_areAgainst 11 = .ok (.invokestatic 354, 3) := by decide +kernel
theorem dX12_areAgainst_14 : decode cX12_areAgainst 14 = .ok (.istore_n 3, 1) := by decide +kernel
theorem dX12_areAgainst_15 : decode cX12_areAgainst 15 = .ok (.iload_n 0, 1) := by decide +kernel
theorem dX12_areAgainst_16 : decode cX12_areAgainst 16 = .ok (.iload_n 3, 1) := by decide +kernel
theorem dX12_areAgainst_17 : decode cX12_areAgainst 17 = .ok (.iand, 1) := by decide +kernel
theorem dX12_areAgainst_18 : decode cX12_areAgainst 18 = .ok (.iload_n 0, 1) := by decide +kernel
theorem dX12_areAgainst_19 : decode cX12_areAgainst 19 = .ok (.if_icmp .ne 13, 3) := by decide +kernel
theorem dX12_areAgainst_22 : decode cX12_areAgainst 22 = .ok (.iload_n 1, 1) := by decide +kernel
theorem dX12_areAgainst_23 : decode cX12_areAgainst 23 = .ok (.iload_n 3, 1) := by decide +kernel
theorem dX12_areAgainst_24 : decode cX12_areAgainst 24 = .ok (.iand, 1) := by decide +kernel
theorem dX12_areAgainst_25 : decode cX12_areAgainst 25 = .ok (.ifCond .ne 7, 3) := by decide +kernel
theorem dX12_areAgainst_28 : decode cX12_areAgainst 28 = .ok (.iconst 1, 1) := by decide +kernel
theorem dX12_areAgainst_29 : decode cX12_areAgainst 29 = .ok (.goto 4, 3) := by decide +kernel
theorem dX12_areAgainst_32 : decode cX12_areAgainst 32 = .ok (.iconst 0, 1) := by decide +kernel
theorem dX12_areAgainst_33 : decode cX12_areAgainst 33 = .ok (.istore 4, 2) := by decide +kernel
theorem dX12_areAgainst_35 : decode cX12_areAgainst 35 = .ok (.iload_n 1, 1) := by decide +kernel
theorem dX12_areAgainst_36 : decode cX12_areAgainst 36 = .ok (.iload_n 3, 1) := by decide +kernel
theorem dX12_areAgainst_37 : decode cX12_areAgainst 37 = .ok (.iand, 1) := by decide +kernel
theorem dX12_areAgainst_38 : decode cX12_areAgainst 38 = .ok (.iload_n 1, 1) := by decide +kernel
theorem dX12_areAgainst_39 : decode cX12_areAgainst 39 = .ok (.if_icmp .ne 13, 3) := by decide +kernel
theorem dX12_areAgainst_42 : decode cX12_areAgainst 42 = .ok (.iload_n 0, 1) := by decide +kernel
theorem dX12_areAgainst_43 : decode cX12_areAgainst 43 = .ok (.iload_n 3, 1) := by decide +kernel
theorem dX12_areAgainst_44 : decode cX12_areAgainst 44 = .ok (.iand, 1) := by decide +kernel
theorem dX12_areAgainst_45 : decode cX12_areAgainst 45 = .ok (.ifCond .ne 7, 3) := by decide +kernel
theorem dX12_areAgainst_48 : decode cX12_areAgainst 48 = .ok (.iconst 1, 1) := by decide +kernel
theorem dX12_areAgainst_49 : decode cX12_areAgainst 49 = .ok (.goto 4, 3) := by decide +kernel
theorem dX12_areAgainst_52 : decode cX12_areAgainst 52 = .ok (.iconst 0, 1) := by decide +kernel
theorem dX12_areAgainst_53 : decode cX12_areAgainst 53 = .ok (.istore 5, 2) := by decide +kernel
theorem dX12_areAgainst_55 : decode cX12_areAgainst 55 = .ok (.iload 4, 2) := by decide +kernel
theorem dX12_areAgainst_57 : decode cX12_areAgainst 57 = .ok (.ifCond .ne 8, 3) := by decide +kernel
theorem dX12_areAgainst_60 : decode cX12_areAgainst 60 = .ok (.iload 5, 2) := by decide +kernel
theorem dX12_areAgainst_62 : decode cX12_areAgainst 62 = .ok (.ifCond .eq 7, 3) := by decide +kernel
theorem dX12_areAgainst_65 : decode cX12_areAgainst 65 = .ok (.iconst 1, 1) := by decide +kernel
theorem dX12_areAgainst_66 : decode cX12_areAgainst 66 = .ok (.goto 4, 3) := by decide +kernel
theorem dX12_areAgainst_69 : decode cX12_areAgainst 69 = .ok (.iconst 0, 1) := by decide +kernel
theorem dX12_areAgainst_70 : decode cX12_areAgainst 70 = .ok (.ireturn, 1) := by decide +kernel
theorem dX12_meaningsWith_0 : decode cX12_meaningsWith 0 = .ok (.iconst 0, 1) := by decide +kernel
theorem dX12_meaningsWith_1 : decode cX12_meaningsWith 1 = .ok (.istore_n 1, 1) := by decide +kernel
theorem dX12_meaningsWith_2 : decode cX12_meaningsWith 2 = .ok (.iconst 0, 1) := by decide +kernel
theorem dX12_meaningsWith_3 : decode cX12_meaningsWith 3 = .ok (.istore_n 2, 1) := by decide +kernel
theorem dX12_meaningsWith_4 : decode cX12_meaningsWith 4 = .ok (.iload_n 2, 1) := by decide +kernel
theorem dX12_meaningsWith_5 : decode cX12_meaningsWith 5 = .ok (.bipush 8, 2) := by decide +kernel
theorem dX12_meaningsWith_7 : decode cX12_meaningsWith 7 = .ok (.if_icmp .ge 23, 3) := by decide +kernel
theorem dX12_meaningsWith_10 : decode cX12_meaningsWith 10 = .ok (.iload_n 2, 1) := by decide +kernel
theorem dX12_meaningsWith_11 : decode cX12_meaningsWith 11 = .ok (.iload_n 0, 1) := by decide +kernel
theorem dX12_meaningsWith_12 : decode cX12_meaningsWith 12 = .ok (.ishr, 1) := by decide +kernel
theorem dX12_meaningsWith_13 : decode cX12_meaningsWith 13 = .ok (.iconst 1, 1) := by decide +kernel
theorem dX12_meaningsWith_14 : decode cX12_meaningsWith 14 = .ok (.iand, 1) := by decide +kernel
theorem dX12_meaningsWith_15 : decode cX12_meaningsWith 15 = .ok (.ifCond .eq 9, 3) := by decide +kernel
theorem dX12_meaningsWith_18 : decode cX12_meaningsWith 18 = .ok (.iload_n 1, 1) := by decide +kernel
theorem dX12_meaningsWith_19 : decode cX12_meaningsWith 19 = .ok (.iconst 1, 1) := by decide +kernel
theorem dX12_meaningsWith_20 : decode cX12_meaningsWith 20 = .ok (.iload_n 2, 1) := by decide +kernel
theorem dX12_meaningsWith_21 : decode cX12_meaningsWith 21 = .ok (.ishl, 1) := by decide +kernel
theorem dX12_meaningsWith_22 : decode cX12_meaningsWith 22 = .ok (.ior, 1) := by decide +kernel
theorem dX12_meaningsWith_23 : decode cX12_meaningsWith 23 = .ok (.istore_n 1, 1) := by decide +kernel
theorem dX12_meaningsWith_24 : decode cX12_meaningsWith 24 = .ok (.iinc 2 1, 3) := by decide +kernel
theorem dX12_meaningsWith_27 : decode cX12_meaningsWith 27 = .ok (.goto (-23), 3) := by decide +kernel
theorem dX12_meaningsWith_30 : decode cX12_meaningsWith 30 = .ok (.iload_n 1, 1) := by decide +kernel
theorem dX12_meaningsWith_31 : decode cX12_meaningsWith 31 = .ok (.ireturn, 1) := by decide +kernel
theorem dX12_inLeastNumbers_0 : decode cX12_inLeastNumbers 0 = .ok (.iload_n 2, 1) := by decide +kernel
theorem dX12_inLeastNumbers_1 : decode cX12_inLeastNumbers 1 = .ok (.istore_n 3, 1) := by decide +kernel
theorem dX12_inLeastNumbers_2 : decode cX12_inLeastNumbers 2 = .ok (.iload_n 3, 1) := by decide +kernel
theorem dX12_inLeastNumbers_3 : decode cX12_inLeastNumbers 3 = .ok (.iconst 1, 1) := by decide +kernel
theorem dX12_inLeastNumbers_4 : decode cX12_inLeastNumbers 4 = .ok (.if_icmp .le 25, 3) := by decide +kernel
theorem dX12_inLeastNumbers_7 : decode cX12_inLeastNumbers 7 = .ok (.iload_n 1, 1) := by decide +kernel
theorem dX12_inLeastNumbers_8 : decode cX12_inLeastNumbers 8 = .ok (.iload_n 3, 1) := by decide +kernel
theorem dX12_inLeastNumbers_9 : decode cX12_inLeastNumbers 9 = .ok (.irem, 1) := by decide +kernel
theorem dX12_inLeastNumbers_10 : decode cX12_inLeastNumbers 10 = .ok (.ifCond .ne 13, 3) := by decide +kernel
theorem dX12_inLeastNumbers_13 : decode cX12_inLeastNumbers 13 = .ok (.iload_n 2, 1) := by decide +kernel
theorem dX12_inLeastNumbers_14 : decode cX12_inLeastNumbers 14 = .ok (.iload_n 3, 1) := by decide +kernel
theorem dX12_inLeastNumbers_15 : decode cX12_inLeastNumbers 15 = .ok (.irem, 1) := by decide +kernel
theorem dX12_inLeastNumbers_16 : decode cX12_inLeastNumbers 16 = .ok (.ifCond .ne 7, 3) := by decide +kernel
theorem dX12_inLeastNumbers_19 : decode cX12_inLeastNumbers 19 = .ok (.iload_n 0, 1) := by decide +kernel
theorem dX12_inLeastNumbers_20 : decode cX12_inLeastNumbers 20 = .ok (.iload_n 3, 1) := by decide +kernel
theorem dX12_inLeastNumbers_21 : decode cX12_inLeastNumbers 21 = .ok (.idiv, 1) := by decide +kernel
theorem dX12_inLeastNumbers_22 : decode cX12_inLeastNumbers 22 = .ok (.ireturn, 1) := by decide +kernel
theorem dX12_inLeastNumbers_23 : decode cX12_inLeastNumbers 23 = .ok (.iinc 3 (-1), 3) := by decide +kernel
theorem dX12_inLeastNumbers_26 : decode cX12_inLeastNumbers 26 = .ok (.goto (-24), 3) := by decide +kernel
theorem dX12_inLeastNumbers_29 : decode cX12_inLeastNumbers 29 = .ok (.iload_n 0, 1) := by decide +kernel
theorem dX12_inLeastNumbers_30 : decode cX12_inLeastNumbers 30 = .ok (.ireturn, 1) := by decide +kernel
theorem dX13_thrown_0 : decode cX13_thrown 0 = .ok (.aload_n 0, 1) := by decide +kernel
theorem dX13_thrown_1 : decode cX13_thrown 1 = .ok (.getfield 1, 3) := by decide +kernel
theorem dX13_thrown_4 : decode cX13_thrown 4 = .ok (.ireturn, 1) := by decide +kernel
theorem dX13_throwsIf_0 : decode cX13_throwsIf 0 = .ok (.aload_n 0, 1) := by decide +kernel
theorem dX13_throwsIf_1 : decode cX13_throwsIf 1 = .ok (.iload_n 1, 1) := by decide +kernel
theorem dX13_throwsIf_2 : decode cX13_throwsIf 2 = .ok (.ifCond .eq 7, 3) := by decide +kernel
theorem dX13_throwsIf_5 : decode cX13_throwsIf 5 = .ok (.iconst 1, 1) := by decide +kernel
theorem dX13_throwsIf_6 : decode cX13_throwsIf 6 = .ok (.goto 4, 3) := by decide +kernel
theorem dX13_throwsIf_9 : decode cX13_throwsIf 9 = .ok (.iconst 0, 1) := by decide +kernel
theorem dX13_throwsIf_10 : decode cX13_throwsIf 10 = .ok (.putfield 1, 3) := by decide +kernel
theorem dX13_throwsIf_13 : decode cX13_throwsIf 13 = .ok (.iload_n 1, 1) := by decide +kernel
theorem dX13_throwsIf_14 : decode cX13_throwsIf 14 = .ok (.ireturn, 1) := by decide +kernel
theorem dX13_feed_0 : decode cX13_feed 0 = .ok (.aload_n 0, 1) := by decide +kernel
theorem dX13_feed_1 : decode cX13_feed 1 = .ok (.iconst 0, 1) := by decide +kernel
theorem dX13_feed_2 : decode cX13_feed 2 = .ok (.putfield 1, 3) := by decide +kernel
theorem dX13_feed_5 : decode cX13_feed 5 = .ok (.aload_n 0, 1) := by decide +kernel
theorem dX13_feed_6 : decode cX13_feed 6 = .ok (.getfield 7, 3) := by decide +kernel
theorem dX13_feed_9 : decode cX13_feed 9 = .ok (.bipush 20, 2) := by decide +kernel
theorem dX13_feed_11 : decode cX13_feed 11 = .ok (.iadd, 1) := by decide +kernel
theorem dX13_feed_12 : decode cX13_feed 12 = .ok (.sipush 940, 3) := by decide +kernel
theorem dX13_feed_15 : decode cX13_feed 15 = .ok (.if_icmp .le 5, 3) := by decide +kernel
theorem dX13_feed_18 : decode cX13_feed 18 = .ok (.iconst (-1), 1) := by decide +kernel
theorem dX13_feed_19 : decode cX13_feed 19 = .ok (.ireturn, 1) := by decide +kernel
theorem dX13_feed_20 : decode cX13_feed 20 = .ok (.aload_n 0, 1) := by decide +kernel
theorem dX13_feed_21 : decode cX13_feed 21 = .ok (.iload_n 1, 1) := by decide +kernel
theorem dX13_feed_22 : decode cX13_feed 22 = .ok (.invokevirtual 10, 3) := by decide +kernel
theorem dX13_feed_25 : decode cX13_feed 25 = .ok (.aload_n 0, 1) := by decide +kernel
theorem dX13_feed_26 : decode cX13_feed 26 = .ok (.iload_n 2, 1) := by decide +kernel
theorem dX13_feed_27 : decode cX13_feed 27 = .ok (.invokevirtual 10, 3) := by decide +kernel
theorem dX13_feed_30 : decode cX13_feed 30 = .ok (.aload_n 0, 1) := by decide +kernel
theorem dX13_feed_31 : decode cX13_feed 31 = .ok (.iload_n 3, 1) := by decide +kernel
theorem dX13_feed_32 : decode cX13_feed 32 = .ok (.invokevirtual 10, 3) := by decide +kernel
theorem dX13_feed_35 : decode cX13_feed 35 = .ok (.aload_n 0, 1) := by decide +kernel
theorem dX13_feed_36 : decode cX13_feed 36 = .ok (.iload 4, 2) := by decide +kernel
theorem dX13_feed_38 : decode cX13_feed 38 = .ok (.invokevirtual 10, 3) := by decide +kernel
theorem dX13_feed_41 : decode cX13_feed 41 = .ok (.aload_n 0, 1) := by decide +kernel
theorem dX13_feed_42 : decode cX13_feed 42 = .ok (.iload 5, 2) := by decide +kernel
theorem dX13_feed_44 : decode cX13_feed 44 = .ok (.invokevirtual 10, 3) := by decide +kernel
theorem dX13_feed_47 : decode cX13_feed 47 = .ok (.aload_n 0, 1) := by decide +kernel
theorem dX13_feed_48 : decode cX13_feed 48 = .ok (.getfield 7, 3) := by decide +kernel
theorem dX13_feed_51 : decode cX13_feed 51 = .ok (.ireturn, 1) := by decide +kernel
theorem dX13_four_0 : decode cX13_four 0 = .ok (.bipush 24, 2) := by decide +kernel
theorem dX13_four_2 : decode cX13_four 2 = .ok (.istore_n 2, 1) := by decide +kernel
theorem dX13_four_3 : decode cX13_four 3 = .ok (.iload_n 2, 1) := by decide +kernel
theorem dX13_four_4 : decode cX13_four 4 = .ok (.ifCond .lt 32, 3) := by decide +kernel
theorem dX13_four_7 : decode cX13_four 7 = .ok (.aload_n 0, 1) := by decide +kernel
theorem dX13_four_8 : decode cX13_four 8 = .ok (.getfield 14, 3) := by decide +kernel
theorem dX13_four_11 : decode cX13_four 11 = .ok (.aload_n 0, 1) := by decide +kernel
theorem dX13_four_12 : decode cX13_four 12 = .ok (.getfield 7, 3) := by decide +kernel
theorem dX13_four_15 : decode cX13_four 15 = .ok (.iload_n 1, 1) := by decide +kernel
theorem dX13_four_16 : decode cX13_four 16 = .ok (.iload_n 2, 1) := by decide +kernel
theorem dX13_four_17 : decode cX13_four 17 = .ok (.ishr, 1) := by decide +kernel
theorem dX13_four_18 : decode cX13_four 18 = .ok (.i2b, 1) := by decide +kernel
theorem dX13_four_19 : decode cX13_four 19 = .ok (.bastore, 1) := by decide +kernel
theorem dX13_four_20 : decode cX13_four 20 = .ok (.aload_n 0, 1) := by decide +kernel
theorem dX13_four_21 : decode cX13_four 21 = .ok (.dup, 1) := by decide +kernel
theorem dX13_four_22 : decode cX13_four 22 = .ok (.getfield 7, 3) := by decide +kernel
theorem dX13_four_25 : decode cX13_four 25 = .ok (.iconst 1, 1) := by decide +kernel
theorem dX13_four_26 : decode cX13_four 26 = .ok (.iadd, 1) := by decide +kernel
theorem dX13_four_27 : decode cX13_four 27 = .ok (.putfield 7, 3) := by decide +kernel
theorem dX13_four_30 : decode cX13_four 30 = .ok (.iinc 2 (-8), 3) := by decide +kernel
theorem dX13_four_33 : decode cX13_four 33 = .ok (.goto (-30), 3) := by decide +kernel
theorem dX13_four_36 : decode cX13_four 36 = .ok (.return_, 1) := by decide +kernel
theorem dX13_end_0 : decode cX13_end 0 = .ok (.aload_n 0, 1) := by decide +kernel
theorem dX13_end_1 : decode cX13_end 1 = .ok (.iconst 0, 1) := by decide +kernel
theorem dX13_end_2 : decode cX13_end 2 = .ok (.putfield 1, 3) := by decide +kernel
theorem dX13_end_5 : decode cX13_end 5 = .ok (.iload_n 1, 1) := by decide +kernel
theorem dX13_end_6 : decode cX13_end 6 = .ok (.ifCond .lt 11, 3) := by decide +kernel
theorem dX13_end_9 : decode cX13_end 9 = .ok (.iload_n 1, 1) := by decide +kernel
theorem dX13_end_10 : decode cX13_end 10 = .ok (.aload_n 0, 1) := by decide +kernel
theorem dX13_end_11 : decode cX13_end 11 = .ok (.getfield 7, 3) := by decide +kernel
theorem dX13_end_14 : decode cX13_end 14 = .ok (.if_icmp .le 5, 3) := by decide +kernel
theorem dX13_end_17 : decode cX13_end 17 = .ok (.iconst 0, 1) := by decide +kernel
theorem dX13_end_18 : decode cX13_end 18 = .ok (.ireturn, 1) := by decide +kernel
theorem dX13_end_19 : decode cX13_end 19 = .ok (.aload_n 0, 1) := by decide +kernel
theorem dX13_end_20 : decode cX13_end 20 = .ok (.iload_n 1, 1) := by decide +kernel
theorem dX13_end_21 : decode cX13_end 21 = .ok (.putfield 7, 3) := by decide +kernel
theorem dX13_end_24 : decode cX13_end 24 = .ok (.iconst 1, 1) := by decide +kernel
theorem dX13_end_25 : decode cX13_end 25 = .ok (.ireturn, 1) := by decide +kernel
theorem dX13_taken_0 : decode cX13_taken 0 = .ok (.aload_n 0, 1) := by decide +kernel
theorem dX13_taken_1 : decode cX13_taken 1 = .ok (.aload_n 0, 1) := by decide +kernel
theorem dX13_taken_2 : decode cX13_taken 2 = .ok (.getfield 7, 3) := by decide +kernel
theorem dX13_taken_5 : decode cX13_taken 5 = .ok (.putfield 18, 3) := by decide +kernel
theorem dX13_taken_8 : decode cX13_taken 8 = .ok (.aload_n 0, 1) := by decide +kernel
theorem dX13_taken_9 : decode cX13_taken 9 = .ok (.iconst 0, 1) := by decide +kernel
theorem dX13_taken_10 : decode cX13_taken 10 = .ok (.putfield 7, 3) := by decide +kernel
theorem dX13_taken_13 : decode cX13_taken 13 = .ok (.aload_n 0, 1) := by decide +kernel
theorem dX13_taken_14 : decode cX13_taken 14 = .ok (.iconst 0, 1) := by decide +kernel
theorem dX13_taken_15 : decode cX13_taken 15 = .ok (.putfield 21, 3) := by decide +kernel
theorem dX13_taken_18 : decode cX13_taken 18 = .ok (.aload_n 0, 1) := by decide +kernel
theorem dX13_taken_19 : decode cX13_taken 19 = .ok (.iload_n 1, 1) := by decide +kernel
theorem dX13_taken_20 : decode cX13_taken 20 = .ok (.putfield 24, 3) := by decide +kernel
theorem dX13_taken_23 : decode cX13_taken 23 = .ok (.return_, 1) := by decide +kernel
theorem dX13_isIn_0 : decode cX13_isIn 0 = .ok (.iload_n 0, 1) := by decide +kernel
theorem dX13_isIn_1 : decode cX13_isIn 1 = .ok (.iload_n 1, 1) := by decide +kernel
theorem dX13_isIn_2 : decode cX13_isIn 2 = .ok (.if_icmp .lt 12, 3) := by decide +kernel
theorem dX13_isIn_5 : decode cX13_isIn 5 = .ok (.iload_n 0, 1) := by decide +kernel
theorem dX13_isIn_6 : decode cX13_isIn 6 = .ok (.iload_n 2, 1) := by decide +kernel
theorem dX13_isIn_7 : decode cX13_isIn 7 = .ok (.if_icmp .gt 7, 3) := by decide +kernel
theorem dX13_isIn_10 : decode cX13_isIn 10 = .ok (.iconst 1, 1) := by decide +kernel
theorem dX13_isIn_11 : decode cX13_isIn 11 = .ok (.goto 4, 3) := by decide +kernel
theorem dX13_isIn_14 : decode cX13_isIn 14 = .ok (.iconst 0, 1) := by decide +kernel
theorem dX13_isIn_15 : decode cX13_isIn 15 = .ok (.ireturn, 1) := by decide +kernel
theorem dX13_has_0 : decode cX13_has 0 = .ok (.iload_n 0, 1) := by decide +kernel
theorem dX13_has_1 : decode cX13_has 1 = .ok (.iload_n 1, 1) := by decide +kernel
theorem dX13_has_2 : decode cX13_has 2 = .ok (.ishr, 1) := by decide +kernel
theorem dX13_has_3 : decode cX13_has 3 = .ok (.iconst 1, 1) := by decide +kernel
theorem dX13_has_4 : decode cX13_has 4 = .ok (.iand, 1) := by decide +kernel
theorem dX13_has_5 : decode cX13_has 5 = .ok (.iconst 1, 1) := by decide +kernel
theorem dX13_has_6 : decode cX13_has 6 = .ok (.if_icmp .ne 7, 3) := by decide +kernel
theorem dX13_has_9 : decode cX13_has 9 = .ok (.iconst 1, 1) := by decide +kernel
theorem dX13_has_10 : decode cX13_has 10 = .ok (.goto 4, 3) := by decide +kernel
theorem dX13_has_13 : decode cX13_has 13 = .ok (.iconst 0, 1) := by decide +kernel
theorem dX13_has_14 : decode cX13_has 14 = .ok (.ireturn, 1) := by decide +kernel
theorem dX13_octet_0 : decode cX13_octet 0 = .ok (.aload_n 0, 1) := by decide +kernel
theorem dX13_octet_1 : decode cX13_octet 1 = .ok (.getfield 14, 3) := by decide +kernel
theorem dX13_octet_4 : decode cX13_octet 4 = .ok (.iload_n 1, 1) := by decide +kernel
theorem dX13_octet_5 : decode cX13_octet 5 = .ok (.baload, 1) := by decide +kernel
theorem dX13_octet_6 : decode cX13_octet 6 = .ok (.sipush 255, 3) := by decide +kernel
theorem dX13_octet_9 : decode cX13_octet 9 = .ok (.iand, 1) := by decide +kernel
theorem dX13_octet_10 : decode cX13_octet 10 = .ok (.ireturn, 1) := by decide +kernel
theorem dX13_init_0 : decode cX13_init 0 = .ok (.aload_n 0, 1) := by decide +kernel
theorem dX13_init_1 : decode cX13_init 1 = .ok (.invokespecial 27, 3) := by decide +kernel
theorem dX13_init_4 : decode cX13_init 4 = .ok (.aload_n 0, 1) := by decide +kernel
theorem dX13_init_5 : decode cX13_init 5 = .ok (.sipush 940, 3) := by decide +kernel
theorem dX13_init_8 : decode cX13_init 8 = .ok (.newarray .byte, 2) := by decide +kernel
theorem dX13_init_10 : decode cX13_init 10 = .ok (.putfield 14, 3) := by decide +kernel
theorem dX13_init_13 : decode cX13_init 13 = .ok (.aload_n 0, 1) := by decide +kernel
theorem dX13_init_14 : decode cX13_init 14 = .ok (.sipush 713, 3) := by decide +kernel
theorem dX13_init_17 : decode cX13_init 17 = .ok (.newarray .int, 2) := by decide +kernel
theorem dX13_init_19 : decode cX13_init 19 = .ok (.putfield 33, 3) := by decide +kernel
theorem dX13_init_22 : decode cX13_init 22 = .ok (.aload_n 0, 1) := by decide +kernel
theorem dX13_init_23 : decode cX13_init 23 = .ok (.sipush 437, 3) := by decide +kernel
theorem dX13_init_26 : decode cX13_init 26 = .ok (.newarray .int, 2) := by decide +kernel
theorem dX13_init_28 : decode cX13_init 28 = .ok (.putfield 37, 3) := by decide +kernel
theorem dX13_init_31 : decode cX13_init 31 = .ok (.aload_n 0, 1) := by decide +kernel
theorem dX13_init_32 : decode cX13_init 32 = .ok (.bipush 32, 2) := by decide +kernel
theorem dX13_init_34 : decode cX13_init 34 = .ok (.newarray .long, 2) := by decide +kernel
theorem dX13_init_36 : decode cX13_init 36 = .ok (.putfield 40, 3) := by decide +kernel
theorem dX13_init_39 : decode cX13_init 39 = .ok (.aload_n 0, 1) := by decide +kernel
theorem dX13_init_40 : decode cX13_init 40 = .ok (.bipush 16, 2) := by decide +kernel
theorem dX13_init_42 : decode cX13_init 42 = .ok (.newarray .long, 2) := by decide +kernel
theorem dX13_init_44 : decode cX13_init 44 = .ok (.putfield 44, 3) := by decide +kernel
theorem dX13_init_47 : decode cX13_init 47 = .ok (.aload_n 0, 1) := by decide +kernel
theorem dX13_init_48 : decode cX13_init 48 = .ok (.bipush 24, 2) := by decide +kernel
theorem dX13_init_50 : decode cX13_init 50 = .ok (.newarray .int, 2) := by decide +kernel
theorem dX13_init_52 : decode cX13_init 52 = .ok (.putfield 47, 3) := by decide +kernel
theorem dX13_init_55 : decode cX13_init 55 = .ok (.aload_n 0, 1) := by decide +kernel
theorem dX13_init_56 : decode cX13_init 56 = .ok (.bipush 24, 2) := by decide +kernel
theorem dX13_init_58 : decode cX13_init 58 = .ok (.newarray .int, 2) := by decide +kernel
theorem dX13_init_60 : decode cX13_init 60 = .ok (.putfield 50, 3) := by decide +kernel
theorem dX13_init_63 : decode cX13_init 63 = .ok (.aload_n 0, 1) := by decide +kernel
theorem dX13_init_64 : decode cX13_init 64 = .ok (.bipush 24, 2) := by decide +kernel
theorem dX13_init_66 : decode cX13_init 66 = .ok (.newarray .int, 2) := by decide +kernel
theorem dX13_init_68 : decode cX13_init 68 = .ok (.putfield 53, 3) := by decide +kernel
theorem dX13_init_71 : decode cX13_init 71 = .ok (.aload_n 0, 1) := by decide +kernel
theorem dX13_init_72 : decode cX13_init 72 = .ok (.sipush 10240, 3) := by decide +kernel
theorem dX13_init_75 : decode cX13_init 75 = .ok (.newarray .int, 2) := by decide +kernel
theorem dX13_init_77 : decode cX13_init 77 = .ok (.putfield 56, 3) := by decide +kernel
theorem dX13_init_80 : decode cX13_init 80 = .ok (.aload_n 0, 1) := by decide +kernel
theorem dX13_init_81 : decode cX13_init 81 = .ok (.bipush 40, 2) := by decide +kernel
theorem dX13_init_83 : decode cX13_init 83 = .ok (.newarray .int, 2) := by decide +kernel
theorem dX13_init_85 : decode cX13_init 85 = .ok (.putfield 59, 3) := by decide +kernel
theorem dX13_init_88 : decode cX13_init 88 = .ok (.aload_n 0, 1) := by decide +kernel
theorem dX13_init_89 : decode cX13_init 89 = .ok (.bipush 25, 2) := by decide +kernel
theorem dX13_init_91 : decode cX13_init 91 = .ok (.newarray .int, 2) := by decide +kernel
theorem dX13_init_93 : decode cX13_init 93 = .ok (.putfield 62, 3) := by decide +kernel
theorem dX13_init_96 : decode cX13_init 96 = .ok (.aload_n 0, 1) := by decide +kernel
theorem dX13_init_97 : decode cX13_init 97 = .ok (.iconst 1, 1) := by decide +kernel
theorem dX13_init_98 : decode cX13_init 98 = .ok (.putfield 65, 3) := by decide +kernel
theorem dX13_init_101 : decode cX13_init 101 = .ok (.aload_n 0, 1) := by decide +kernel
theorem dX13_init_102 : decode cX13_init 102 = .ok (.bipush 125, 2) := by decide +kernel
theorem dX13_init_104 : decode cX13_init 104 = .ok (.newarray .long, 2) := by decide +kernel
theorem dX13_init_106 : decode cX13_init 106 = .ok (.putfield 69, 3) := by decide +kernel
theorem dX13_init_109 : decode cX13_init 109 = .ok (.aload_n 0, 1) := by decide +kernel
theorem dX13_init_110 : decode cX13_init 110 = .ok (.bipush 6, 2) := by decide +kernel
theorem dX13_init_112 : decode cX13_init 112 = .ok (.newarray .int, 2) := by decide +kernel
theorem dX13_init_114 : decode cX13_init 114 = .ok (.putfield 72, 3) := by decide +kernel
theorem dX13_init_117 : decode cX13_init 117 = .ok (.aload_n 0, 1) := by decide +kernel
theorem dX13_init_118 : decode cX13_init 118 = .ok (.sipush 144, 3) := by decide +kernel
theorem dX13_init_121 : decode cX13_init 121 = .ok (.newarray .int, 2) := by decide +kernel
theorem dX13_init_123 : decode cX13_init 123 = .ok (.putfield 75, 3) := by decide +kernel
theorem dX13_init_126 : decode cX13_init 126 = .ok (.aload_n 0, 1) := by decide +kernel
theorem dX13_init_127 : decode cX13_init 127 = .ok (.sipush 145, 3) := by decide +kernel
theorem dX13_init_130 : decode cX13_init 130 = .ok (.newarray .long, 2) := by decide +kernel
theorem dX13_init_132 : decode cX13_init 132 = .ok (.putfield 78, 3) := by decide +kernel
theorem dX13_init_135 : decode cX13_init 135 = .ok (.aload_n 0, 1) := by decide +kernel
theorem dX13_init_136 : decode cX13_init 136 = .ok (.bipush 84, 2) := by decide +kernel
theorem dX13_init_138 : decode cX13_init 138 = .ok (.newarray .long, 2) := by decide +kernel
theorem dX13_init_140 : decode cX13_init 140 = .ok (.putfield 81, 3) := by decide +kernel
theorem dX13_init_143 : decode cX13_init 143 = .ok (.aload_n 0, 1) := by decide +kernel
theorem dX13_init_144 : decode cX13_init 144 = .ok (.bipush 6, 2) := by decide +kernel
theorem dX13_init_146 : decode cX13_init 146 = .ok (.newarray .int, 2) := by decide +kernel
theorem dX13_init_148 : decode cX13_init 148 = .ok (.putfield 84, 3) := by decide +kernel
theorem dX13_init_151 : decode cX13_init 151 = .ok (.aload_n 0, 1) := by decide +kernel
theorem dX13_init_152 : decode cX13_init 152 = .ok (.bipush 14, 2) := by decide +kernel
theorem dX13_init_154 : decode cX13_init 154 = .ok (.newarray .int, 2) := by decide +kernel
theorem dX13_init_156 : decode cX13_init 156 = .ok (.putfield 87, 3) := by decide +kernel
theorem dX13_init_159 : decode cX13_init 159 = .ok (.aload_n 0, 1) := by decide +kernel
theorem dX13_init_160 : decode cX13_init 160 = .ok (.bipush 14, 2) := by decide +kernel
theorem dX13_init_162 : decode cX13_init 162 = .ok (.newarray .int, 2) := by decide +kernel
theorem dX13_init_164 : decode cX13_init 164 = .ok (.putfield 90, 3) := by decide +kernel
theorem dX13_init_167 : decode cX13_init 167 = .ok (.aload_n 0, 1) := by decide +kernel
theorem dX13_init_168 : decode cX13_init 168 = .ok (.bipush 84, 2) := by decide +kernel
theorem dX13_init_170 : decode cX13_init 170 = .ok (.newarray .int, 2) := by decide +kernel
theorem dX13_init_172 : decode cX13_init 172 = .ok (.putfield 93, 3) := by decide +kernel
theorem dX13_init_175 : decode cX13_init 175 = .ok (.aload_n 0, 1) := by decide +kernel
theorem dX13_init_176 : decode cX13_init 176 = .ok (.bipush 24, 2) := by decide +kernel
theorem dX13_init_178 : decode cX13_init 178 = .ok (.newarray .int, 2) := by decide +kernel
theorem dX13_init_180 : decode cX13_init 180 = .ok (.putfield 96, 3) := by decide +kernel
theorem dX13_init_183 : decode cX13_init 183 = .ok (.aload_n 0, 1) := by decide +kernel
theorem dX13_init_184 : decode cX13_init 184 = .ok (.bipush 15, 2) := by decide +kernel
theorem dX13_init_186 : decode cX13_init 186 = .ok (.newarray .int, 2) := by decide +kernel
theorem dX13_init_188 : decode cX13_init 188 = .ok (.putfield 99, 3) := by decide +kernel
theorem dX13_init_191 : decode cX13_init 191 = .ok (.aload_n 0, 1) := by decide +kernel
theorem dX13_init_192 : decode cX13_init 192 = .ok (.bipush 12, 2) := by decide +kernel
theorem dX13_init_194 : decode cX13_init 194 = .ok (.newarray .int, 2) := by decide +kernel
theorem dX13_init_196 : decode cX13_init 196 = .ok (.putfield 102, 3) := by decide +kernel
theorem dX13_init_199 : decode cX13_init 199 = .ok (.aload_n 0, 1) := by decide +kernel
theorem dX13_init_200 : decode cX13_init 200 = .ok (.iconst 3, 1) := by decide +kernel
theorem dX13_init_201 : decode cX13_init 201 = .ok (.newarray .int, 2) := by decide +kernel
theorem dX13_init_203 : decode cX13_init 203 = .ok (.putfield 105, 3) := by decide +kernel
theorem dX13_init_206 : decode cX13_init 206 = .ok (.aload_n 0, 1) := by decide +kernel
theorem dX13_init_207 : decode cX13_init 207 = .ok (.bipush 12, 2) := by decide +kernel
theorem dX13_init_209 : decode cX13_init 209 = .ok (.newarray .int, 2) := by decide +kernel
theorem dX13_init_211 : decode cX13_init 211 = .ok (.putfield 108, 3) := by decide +kernel
theorem dX13_init_214 : decode cX13_init 214 = .ok (.aload_n 0, 1) := by decide +kernel
theorem dX13_init_215 : decode cX13_init 215 = .ok (.bipush 60, 2) := by decide +kernel
theorem dX13_init_217 : decode cX13_init 217 = .ok (.newarray .long, 2) := by decide +kernel
theorem dX13_init_219 : decode cX13_init 219 = .ok (.putfield 111, 3) := by decide +kernel
theorem dX13_init_222 : decode cX13_init 222 = .ok (.aload_n 0, 1) := by decide +kernel
theorem dX13_init_223 : decode cX13_init 223 = .ok (.bipush 65, 2) := by decide +kernel
theorem dX13_init_225 : decode cX13_init 225 = .ok (.newarray .long, 2) := by decide +kernel
theorem dX13_init_227 : decode cX13_init 227 = .ok (.putfield 114, 3) := by decide +kernel
theorem dX13_init_230 : decode cX13_init 230 = .ok (.aload_n 0, 1) := by decide +kernel
theorem dX13_init_231 : decode cX13_init 231 = .ok (.sipush 1426, 3) := by decide +kernel
theorem dX13_init_234 : decode cX13_init 234 = .ok (.newarray .int, 2) := by decide +kernel
theorem dX13_init_236 : decode cX13_init 236 = .ok (.putfield 117, 3) := by decide +kernel
theorem dX13_init_239 : decode cX13_init 239 = .ok (.aload_n 0, 1) := by decide +kernel
theorem dX13_init_240 : decode cX13_init 240 = .ok (.bipush 32, 2) := by decide +kernel
theorem dX13_init_242 : decode cX13_init 242 = .ok (.newarray .long, 2) := by decide +kernel
theorem dX13_init_244 : decode cX13_init 244 = .ok (.putfield 120, 3) := by decide +kernel
theorem dX13_init_247 : decode cX13_init 247 = .ok (.aload_n 0, 1) := by decide +kernel
theorem dX13_init_248 : decode cX13_init 248 = .ok (.iconst 2, 1) := by decide +kernel
theorem dX13_init_249 : decode cX13_init 249 = .ok (.newarray .boolean, 2) := by decide +kernel
theorem dX13_init_251 : decode cX13_init 251 = .ok (.putfield 123, 3) := by decide +kernel
theorem dX13_init_254 : decode cX13_init 254 = .ok (.aload_n 0, 1) := by decide +kernel
theorem dX13_init_255 : decode cX13_init 255 = .ok (.getfield 44, 3) := by decide +kernel
theorem dX13_init_258 : decode cX13_init 258 = .ok (.iconst 0, 1) := by decide +kernel
theorem dX13_init_259 : decode cX13_init 259 = .ok (.ldc2_w 127, 3) := by decide +kernel
theorem dX13_init_262 : decode cX13_init 262 = .ok (.lastore, 1) := by decide +kernel
theorem dX13_init_263 : decode cX13_init 263 = .ok (.aload_n 0, 1) := by decide +kernel
theorem dX13_init_264 : decode cX13_init 264 = .ok (.getfield 44, 3) := by decide +kernel
theorem dX13_init_267 : decode cX13_init 267 = .ok (.iconst 1, 1) := by decide +kernel
theorem dX13_init_268 : decode cX13_init 268 = .ok (.ldc2_w 129, 3) := by decide +kernel
theorem dX13_init_271 : decode cX13_init 271 = .ok (.lastore, 1) := by decide +kernel
theorem dX13_init_272 : decode cX13_init 272 = .ok (.aload_n 0, 1) := by decide +kernel
theorem dX13_init_273 : decode cX13_init 273 = .ok (.getfield 44, 3) := by decide +kernel
theorem dX13_init_276 : decode cX13_init 276 = .ok (.iconst 2, 1) := by decide +kernel
theorem dX13_init_277 : decode cX13_init 277 = .ok (.ldc2_w 131, 3) := by decide +kernel
theorem dX13_init_280 : decode cX13_init 280 = .ok (.lastore, 1) := by decide +kernel
theorem dX13_init_281 : decode cX13_init 281 = .ok (.aload_n 0, 1) := by decide +kernel
theorem dX13_init_282 : decode cX13_init 282 = .ok (.getfield 44, 3) := by decide +kernel
theorem dX13_init_285 : decode cX13_init 285 = .ok (.iconst 3, 1) := by decide +kernel
theorem dX13_init_286 : decode cX13_init 286 = .ok (.ldc2_w 133, 3) := by decide +kernel
theorem dX13_init_289 : decode cX13_init 289 = .ok (.lastore, 1) := by decide +kernel
theorem dX13_init_290 : decode cX13_init 290 = .ok (.aload_n 0, 1) := by decide +kernel
theorem dX13_init_291 : decode cX13_init 291 = .ok (.getfield 44, 3) := by decide +kernel
theorem dX13_init_294 : decode cX13_init 294 = .ok (.iconst 4, 1) := by decide +kernel
theorem dX13_init_295 : decode cX13_init 295 = .ok (.ldc2_w 135, 3) := by decide +kernel
theorem dX13_init_298 : decode cX13_init 298 = .ok (.lastore, 1) := by decide +kernel
theorem dX13_init_299 : decode cX13_init 299 = .ok (.aload_n 0, 1) := by decide +kernel
theorem dX13_init_300 : decode cX13_init 300 = .ok (.getfield 44, 3) := by decide +kernel
theorem dX13_init_303 : decode cX13_init 303 = .ok (.iconst 5, 1) := by decide +kernel
theorem dX13_init_304 : decode cX13_init 304 = .ok (.ldc2_w 137, 3) := by decide +kernel
theorem dX13_init_307 : decode cX13_init 307 = .ok (.lastore, 1) := by decide +kernel
theorem dX13_init_308 : decode cX13_init 308 = .ok (.aload_n 0, 1) := by decide +kernel
theorem dX13_init_309 : decode cX13_init 309 = .ok (.getfield 44, 3) := by decide +kernel
theorem dX13_init_312 : decode cX13_init 312 = .ok (.bipush 6, 2) := by decide +kernel
theorem dX13_init_314 : decode cX13_init 314 = .ok (.ldc2_w 139, 3) := by decide +kernel
theorem dX13_init_317 : decode cX13_init 317 = .ok (.lastore, 1) := by decide +kernel
theorem dX13_init_318 : decode cX13_init 318 = .ok (.aload_n 0, 1) := by decide +kernel
theorem dX13_init_319 : decode cX13_init 319 = .ok (.getfield 44, 3) := by decide +kernel
theorem dX13_init_322 : decode cX13_init 322 = .ok (.bipush 7, 2) := by decide +kernel
theorem dX13_init_324 : decode cX13_init 324 = .ok (.ldc2_w 141, 3) := by decide +kernel
theorem dX13_init_327 : decode cX13_init 327 = .ok (.lastore, 1) := by decide +kernel
theorem dX13_init_328 : decode cX13_init 328 = .ok (.aload_n 0, 1) := by decide +kernel
theorem dX13_init_329 : decode cX13_init 329 = .ok (.getfield 44, 3) := by decide +kernel
theorem dX13_init_332 : decode cX13_init 332 = .ok (.bipush 8, 2) := by decide +kernel
theorem dX13_init_334 : decode cX13_init 334 = .ok (.ldc2_w 143, 3) := by decide +kernel
theorem dX13_init_337 : decode cX13_init 337 = .ok (.lastore, 1) := by decide +kernel
theorem dX13_init_338 : decode cX13_init 338 = .ok (.aload_n 0, 1) := by decide +kernel
theorem dX13_init_339 : decode cX13_init 339 = .ok (.getfield 44, 3) := by decide +kernel
theorem dX13_init_342 : decode cX13_init 342 = .ok (.bipush 9, 2) := by decide +kernel
theorem dX13_init_344 : decode cX13_init 344 = .ok (.ldc2_w 145, 3) := by decide +kernel
theorem dX13_init_347 : decode cX13_init 347 = .ok (.lastore, 1) := by decide +kernel
theorem dX13_init_348 : decode cX13_init 348 = .ok (.aload_n 0, 1) := by decide +kernel
theorem dX13_init_349 : decode cX13_init 349 = .ok (.getfield 44, 3) := by decide +kernel
theorem dX13_init_352 : decode cX13_init 352 = .ok (.bipush 10, 2) := by decide +kernel
theorem dX13_init_354 : decode cX13_init 354 = .ok (.ldc2_w 147, 3) := by decide +kernel
theorem dX13_init_357 : decode cX13_init 357 = .ok (.lastore, 1) := by decide +kernel
theorem dX13_init_358 : decode cX13_init 358 = .ok (.aload_n 0, 1) := by decide +kernel
theorem dX13_init_359 : decode cX13_init 359 = .ok (.getfield 44, 3) := by decide +kernel
theorem dX13_init_362 : decode cX13_init 362 = .ok (.bipush 11, 2) := by decide +kernel
theorem dX13_init_364 : decode cX13_init 364 = .ok (.ldc2_w 149, 3) := by decide +kernel
theorem dX13_init_367 : decode cX13_init 367 = .ok (.lastore, 1) := by decide +kernel
theorem dX13_init_368 : decode cX13_init 368 = .ok (.aload_n 0, 1) := by decide +kernel
theorem dX13_init_369 : decode cX13_init 369 = .ok (.getfield 44, 3) := by decide +kernel
theorem dX13_init_372 : decode cX13_init 372 = .ok (.bipush 12, 2) := by decide +kernel
theorem dX13_init_374 : decode cX13_init 374 = .ok (.ldc2_w 151, 3) := by decide +kernel
theorem dX13_init_377 : decode cX13_init 377 = .ok (.lastore, 1) := by decide +kernel
theorem dX13_init_378 : decode cX13_init 378 = .ok (.aload_n 0, 1) := by decide +kernel
theorem dX13_init_379 : decode cX13_init 379 = .ok (.getfield 44, 3) := by decide +kernel
theorem dX13_init_382 : decode cX13_init 382 = .ok (.bipush 13, 2) := by decide +kernel
theorem dX13_init_384 : decode cX13_init 384 = .ok (.ldc2_w 153, 3) := by decide +kernel
theorem dX13_init_387 : decode cX13_init 387 = .ok (.lastore, 1) := by decide +kernel
theorem dX13_init_388 : decode cX13_init 388 = .ok (.aload_n 0, 1) := by decide +kernel
theorem dX13_init_389 : decode cX13_init 389 = .ok (.getfield 44, 3) := by decide +kernel
theorem dX13_init_392 : decode cX13_init 392 = .ok (.bipush 14, 2) := by decide +kernel
theorem dX13_init_394 : decode cX13_init 394 = .ok (.ldc2_w 155, 3) := by decide +kernel
theorem dX13_init_397 : decode cX13_init 397 = .ok (.lastore, 1) := by decide +kernel
theorem dX13_init_398 : decode cX13_init 398 = .ok (.aload_n 0, 1) := by decide +kernel
theorem dX13_init_399 : decode cX13_init 399 = .ok (.getfield 44, 3) := by decide +kernel
theorem dX13_init_402 : decode cX13_init 402 = .ok (.bipush 15, 2) := by decide +kernel
theorem dX13_init_404 : decode cX13_init 404 = .ok (.ldc2_w 157, 3) := by decide +kernel
theorem dX13_init_407 : decode cX13_init 407 = .ok (.lastore, 1) := by decide +kernel
theorem dX13_init_408 : decode cX13_init 408 = .ok (.aload_n 0, 1) := by decide +kernel
theorem dX13_init_409 : decode cX13_init 409 = .ok (.invokevirtual 159, 3) := by decide +kernel
theorem dX13_init_412 : decode cX13_init 412 = .ok (.iconst 0, 1) := by decide +kernel
theorem dX13_init_413 : decode cX13_init 413 = .ok (.istore_n 1, 1) := by decide +kernel
theorem dX13_init_414 : decode cX13_init 414 = .ok (.iload_n 1, 1) := by decide +kernel
theorem dX13_init_415 : decode cX13_init 415 = .ok (.sipush 437, 3) := by decide +kernel
theorem dX13_init_418 : decode cX13_init 418 = .ok (.if_icmp .ge 21, 3) := by decide +kernel
theorem dX13_init_421 : decode cX13_init 421 = .ok (.aload_n 0, 1) := by decide +kernel
theorem dX13_init_422 : decode cX13_init 422 = .ok (.getfield 33, 3) := by decide +kernel
theorem dX13_init_425 : decode cX13_init 425 = .ok (.iload_n 1, 1) := by decide +kernel
theorem dX13_init_426 : decode cX13_init 426 = .ok (.aload_n 0, 1) := by decide +kernel
theorem dX13_init_427 : decode cX13_init 427 = .ok (.getfield 37, 3) := by decide +kernel
theorem dX13_init_430 : decode cX13_init 430 = .ok (.iload_n 1, 1) := by decide +kernel
theorem dX13_init_431 : decode cX13_init 431 = .ok (.iaload, 1) := by decide +kernel
theorem dX13_init_432 : decode cX13_init 432 = .ok (.iastore, 1) := by decide +kernel
theorem dX13_init_433 : decode cX13_init 433 = .ok (.iinc 1 1, 3) := by decide +kernel
theorem dX13_init_436 : decode cX13_init 436 = .ok (.goto (-22), 3) := by decide +kernel
theorem dX13_init_439 : decode cX13_init 439 = .ok (.return_, 1) := by decide +kernel
theorem dX13_plainTongue_0 : decode cX13_plainTongue 0 = .ok (.iconst 0, 1) := by decide +kernel
theorem dX13_plainTongue_1 : decode cX13_plainTongue 1 = .ok (.istore_n 1, 1) := by decide +kernel
theorem dX13_plainTongue_2 : decode cX13_plainTongue 2 = .ok (.iload_n 1, 1) := by decide +kernel
theorem dX13_plainTongue_3 : decode cX13_plainTongue 3 = .ok (.sipush 437, 3) := by decide +kernel
theorem dX13_plainTongue_6 : decode cX13_plainTongue 6 = .ok (.if_icmp .ge 16, 3) := by decide +kernel
theorem dX13_plainTongue_9 : decode cX13_plainTongue 9 = .ok (.aload_n 0, 1) := by decide +kernel
theorem dX13_plainTongue_10 : decode cX13_plainTongue 10 = .ok (.getfield 37, 3) := by decide +kernel
theorem dX13_plainTongue_13 : decode cX13_plainTongue 13 = .ok (.iload_n 1, 1) := by decide +kernel
theorem dX13_plainTongue_14 : decode cX13_plainTongue 14 = .ok (.iconst 0, 1) := by decide +kernel
theorem dX13_plainTongue_15 : decode cX13_plainTongue 15 = .ok (.iastore, 1) := by decide +kernel
theorem dX13_plainTongue_16 : decode cX13_plainTongue 16 = .ok (.iinc 1 1, 3) := by decide +kernel
theorem dX13_plainTongue_19 : decode cX13_plainTongue 19 = .ok (.goto (-17), 3) := by decide +kernel
theorem dX13_plainTongue_22 : decode cX13_plainTongue 22 = .ok (.aload_n 0, 1) := by decide +kernel
theorem dX13_plainTongue_23 : decode cX13_plainTongue 23 = .ok (.getfield 37, 3) := by decide +kernel
theorem dX13_plainTongue_26 : decode cX13_plainTongue 26 = .ok (.iconst 3, 1) := by decide +kernel
theorem dX13_plainTongue_27 : decode cX13_plainTongue 27 = .ok (.iconst 3, 1) := by decide +kernel
theorem dX13_plainTongue_28 : decode cX13_plainTongue 28 = .ok (.iastore, 1) := by decide +kernel
theorem dX13_plainTongue_29 : decode cX13_plainTongue 29 = .ok (.aload_n 0, 1) := by decide +kernel
theorem dX13_plainTongue_30 : decode cX13_plainTongue 30 = .ok (.getfield 37, 3) := by decide +kernel
theorem dX13_plainTongue_33 : decode cX13_plainTongue 33 = .ok (.iconst 4, 1) := by decide +kernel
theorem dX13_plainTongue_34 : decode cX13_plainTongue 34 = .ok (.iconst 1, 1) := by decide +kernel
theorem dX13_plainTongue_35 : decode cX13_plainTongue 35 = .ok (.iastore, 1) := by decide +kernel
theorem dX13_plainTongue_36 : decode cX13_plainTongue 36 = .ok (.iconst 0, 1) := by decide +kernel
theorem dX13_plainTongue_37 : decode cX13_plainTongue 37 = .ok (.istore_n 1, 1) := by decide +kernel
theorem dX13_plainTongue_38 : decode cX13_plainTongue 38 = .ok (.iload_n 1, 1) := by decide +kernel
theorem dX13_plainTongue_39 : decode cX13_plainTongue 39 = .ok (.iconst 5, 1) := by decide +kernel
theorem dX13_plainTongue_40 : decode cX13_plainTongue 40 = .ok (.if_icmp .ge 20, 3) := by decide +kernel
theorem dX13_plainTongue_43 : decode cX13_plainTongue 43 = .ok (.aload_n 0, 1) := by decide +kernel
theorem dX13_plainTongue_44 : decode cX13_plainTongue 44 = .ok (.getfield 37, 3) := by decide +kernel
theorem dX13_plainTongue_47 : decode cX13_plainTongue 47 = .ok (.sipush 432, 3) := by decide +kernel
theorem dX13_plainTongue_50 : decode cX13_plainTongue 50 = .ok (.iload_n 1, 1) := by decide +kernel
theorem dX13_plainTongue_51 : decode cX13_plainTongue 51 = .ok (.iadd, 1) := by decide +kernel
theorem dX13_plainTongue_52 : decode cX13_plainTongue 52 = .ok (.iconst 1, 1) := by decide +kernel
theorem dX13_plainTongue_53 : decode cX13_plainTongue 53 = .ok (.iastore, 1) := by decide +kernel
theorem dX13_plainTongue_54 : decode cX13_plainTongue 54 = .ok (.iinc 1 1, 3) := by decide +kernel
theorem dX13_plainTongue_57 : decode cX13_plainTongue 57 = .ok (.goto (-19), 3) := by decide +kernel
theorem dX13_plainTongue_60 : decode cX13_plainTongue 60 = .ok (.return_, 1) := by decide +kernel
theorem dX13_peek_0 : decode cX13_peek 0 = .ok (.aload_n 0, 1) := by decide +kernel
theorem dX13_peek_1 : decode cX13_peek 1 = .ok (.getfield 21, 3) := by decide +kernel
theorem dX13_peek_4 : decode cX13_peek 4 = .ok (.aload_n 0, 1) := by decide +kernel
theorem dX13_peek_5 : decode cX13_peek 5 = .ok (.getfield 18, 3) := by decide +kernel
theorem dX13_peek_8 : decode cX13_peek 8 = .ok (.if_icmp .ge 19, 3) := by decide +kernel
theorem dX13_peek_11 : decode cX13_peek 11 = .ok (.aload_n 0, 1) := by decide +kernel
theorem dX13_peek_12 : decode cX13_peek 12 = .ok (.getfield 14, 3) := by decide +kernel
theorem dX13_peek_15 : decode cX13_peek 15 = .ok (.aload_n 0, 1) := by decide +kernel
theorem dX13_peek_16 : decode cX13_peek 16 = .ok (.getfield 21, 3) := by decide +kernel
theorem dX13_peek_19 : decode cX13_peek 19 = .ok (.baload, 1) := by decide +kernel
theorem dX13_peek_20 : decode cX13_peek 20 = .ok (.sipush 255, 3) := by decide +kernel
theorem dX13_peek_23 : decode cX13_peek 23 = .ok (.iand, 1) := by decide +kernel
theorem dX13_peek_24 : decode cX13_peek 24 = .ok (.goto 4, 3) := by decide +kernel
theorem dX13_peek_27 : decode cX13_peek 27 = .ok (.iconst (-1), 1) := by decide +kernel
theorem dX13_peek_28 : decode cX13_peek 28 = .ok (.ireturn, 1) := by decide +kernel
theorem dX13_isSmall_0 : decode cX13_isSmall 0 = .ok (.iload_n 0, 1) := by decide +kernel
theorem dX13_isSmall_1 : decode cX13_isSmall 1 = .ok (.bipush 97, 2) := by decide +kernel
theorem dX13_isSmall_3 : decode cX13_isSmall 3 = .ok (.if_icmp .lt 13, 3) := by decide +kernel
theorem dX13_isSmall_6 : decode cX13_isSmall 6 = .ok (.iload_n 0, 1) := by decide +kernel
theorem dX13_isSmall_7 : decode cX13_isSmall 7 = .ok (.bipush 122, 2) := by decide +kernel
theorem dX13_isSmall_9 : decode cX13_isSmall 9 = .ok (.if_icmp .gt 7, 3) := by decide +kernel
theorem dX13_isSmall_12 : decode cX13_isSmall 12 = .ok (.iconst 1, 1) := by decide +kernel
theorem dX13_isSmall_13 : decode cX13_isSmall 13 = .ok (.goto 4, 3) := by decide +kernel
theorem dX13_isSmall_16 : decode cX13_isSmall 16 = .ok (.iconst 0, 1) := by decide +kernel
theorem dX13_isSmall_17 : decode cX13_isSmall 17 = .ok (.ireturn, 1) := by decide +kernel
theorem dX13_isDigit_0 : decode cX13_isDigit 0 = .ok (.iload_n 0, 1) := by decide +kernel
theorem dX13_isDigit_1 : decode cX13_isDigit 1 = .ok (.bipush 48, 2) := by decide +kernel
theorem dX13_isDigit_3 : decode cX13_isDigit 3 = .ok (.if_icmp .lt 13, 3) := by decide +kernel
theorem dX13_isDigit_6 : decode cX13_isDigit 6 = .ok (.iload_n 0, 1) := by decide +kernel
theorem dX13_isDigit_7 : decode cX13_isDigit 7 = .ok (.bipush 57, 2) := by decide +kernel
theorem dX13_isDigit_9 : decode cX13_isDigit 9 = .ok (.if_icmp .gt 7, 3) := by decide +kernel
theorem dX13_isDigit_12 : decode cX13_isDigit 12 = .ok (.iconst 1, 1) := by decide +kernel
theorem dX13_isDigit_13 : decode cX13_isDigit 13 = .ok (.goto 4, 3) := by decide +kernel
theorem dX13_isDigit_16 : decode cX13_isDigit 16 = .ok (.iconst 0, 1) := by decide +kernel
theorem dX13_isDigit_17 : decode cX13_isDigit 17 = .ok (.ireturn, 1) := by decide +kernel
theorem dX13_next_0 : decode cX13_next 0 = .ok (.aload_n 0, 1) := by decide +kernel
theorem dX13_next_1 : decode cX13_next 1 = .ok (.invokevirtual 162, 3) := by decide +kernel
theorem dX13_next_4 : decode cX13_next 4 = .ok (.bipush 32, 2) := by decide +kernel
theorem dX13_next_6 : decode cX13_next 6 = .ok (.if_icmp .eq 12, 3) := by decide +kernel
theorem dX13_next_9 : decode cX13_next 9 = .ok (.aload_n 0, 1) := by decide +kernel
theorem dX13_next_10 : decode cX13_next 10 = .ok (.invokevirtual 162, 3) := by decide +kernel
theorem dX13_next_13 : decode cX13_next 13 = .ok (.bipush 10, 2) := by decide +kernel
theorem dX13_next_15 : decode cX13_next 15 = .ok (.if_icmp .ne 16, 3) := by decide +kernel
theorem dX13_next_18 : decode cX13_next 18 = .ok (.aload_n 0, 1) := by decide +kernel
theorem dX13_next_19 : decode cX13_next 19 = .ok (.dup, 1) := by decide +kernel
theorem dX13_next_20 : decode cX13_next 20 = .ok (.getfield 21, 3) := by decide +kernel
theorem dX13_next_23 : decode cX13_next 23 = .ok (.iconst 1, 1) := by decide +kernel
theorem dX13_next_24 : decode cX13_next 24 = .ok (.iadd, 1) := by decide +kernel
theorem dX13_next_25 : decode cX13_next 25 = .ok (.putfield 21, 3) := by decide +kernel
theorem dX13_next_28 : decode cX13_next 28 = .ok (.goto (-28), 3) := by decide +kernel
theorem dX13_next_31 : decode cX13_next 31 = .ok (.aload_n 0, 1) := by decide +kernel
theorem dX13_next_32 : decode cX13_next 32 = .ok (.aload_n 0, 1) := by decide +kernel
theorem dX13_next_33 : decode cX13_next 33 = .ok (.getfield 21, 3) := by decide +kernel
theorem dX13_next_36 : decode cX13_next 36 = .ok (.putfield 166, 3) := by decide +kernel
theorem dX13_next_39 : decode cX13_next 39 = .ok (.aload_n 0, 1) := by decide +kernel
theorem dX13_next_40 : decode cX13_next 40 = .ok (.iconst 0, 1) := by decide +kernel
theorem dX13_next_41 : decode cX13_next 41 = .ok (.putfield 169, 3) := by decide +kernel
theorem dX13_next_44 : decode cX13_next 44 = .ok (.aload_n 0, 1) := by decide +kernel
theorem dX13_next_45 : decode cX13_next 45 = .ok (.getfield 18, 3) := by decide +kernel
theorem dX13_next_48 : decode cX13_next 48 = .ok (.aload_n 0, 1) := by decide +kernel
theorem dX13_next_49 : decode cX13_next 49 = .ok (.getfield 24, 3) := by decide +kernel
theorem dX13_next_52 : decode cX13_next 52 = .ok (.if_icmp .le 28, 3) := by decide +kernel
theorem dX13_next_55 : decode cX13_next 55 = .ok (.aload_n 0, 1) := by decide +kernel
theorem dX13_next_56 : decode cX13_next 56 = .ok (.getfield 21, 3) := by decide +kernel
theorem dX13_next_59 : decode cX13_next 59 = .ok (.aload_n 0, 1) := by decide +kernel
theorem dX13_next_60 : decode cX13_next 60 = .ok (.getfield 24, 3) := by decide +kernel
theorem dX13_next_63 : decode cX13_next 63 = .ok (.if_icmp .lt 17, 3) := by decide +kernel
theorem dX13_next_66 : decode cX13_next 66 = .ok (.aload_n 0, 1) := by decide +kernel
theorem dX13_next_67 : decode cX13_next 67 = .ok (.aload_n 0, 1) := by decide +kernel
theorem dX13_next_68 : decode cX13_next 68 = .ok (.getfield 24, 3) := by decide +kernel
theorem dX13_next_71 : decode cX13_next 71 = .ok (.putfield 166, 3) := by decide +kernel
theorem dX13_next_74 : decode cX13_next 74 = .ok (.aload_n 0, 1) := by decide +kernel
theorem dX13_next_75 : decode cX13_next 75 = .ok (.iconst 4, 1) := by decide +kernel
theorem dX13_next_76 : decode cX13_next 76 = .ok (.putfield 172, 3) := by decide +kernel
theorem dX13_next_79 : decode cX13_next 79 = .ok (.return_, 1) := by decide +kernel
theorem dX13_next_80 : decode cX13_next 80 = .ok (.aload_n 0, 1) := by decide +kernel
theorem dX13_next_81 : decode cX13_next 81 = .ok (.invokevirtual 162, 3) := by decide +kernel
theorem dX13_next_84 : decode cX13_next 84 = .ok (.istore_n 1, 1) := by decide +kernel
theorem dX13_next_85 : decode cX13_next 85 = .ok (.iload_n 1, 1) := by decide +kernel
theorem dX13_next_86 : decode cX13_next 86 = .ok (.ifCond .ge 9, 3) := by decide +kernel
theorem dX13_next_89 : decode cX13_next 89 = .ok (.aload_n 0, 1) := by decide +kernel
theorem dX13_next_90 : decode cX13_next 90 = .ok (.iconst 0, 1) := by decide +kernel
theorem dX13_next_91 : decode cX13_next 91 = .ok (.putfield 172, 3) := by decide +kernel
theorem dX13_next_94 : decode cX13_next 94 = .ok (.return_, 1) := by decide +kernel
theorem dX13_next_95 : decode cX13_next 95 = .ok (.iload_n 1, 1) := by decide +kernel
theorem dX13_next_96 : decode cX13_next 96 = .ok (.invokestatic 175, 3) := by decide +kernel
theorem dX13_next_99 : decode cX13_next 99 = .ok (.ifCond .ne 41, 3) := by decide +kernel
theorem dX13_next_102 : decode cX13_next 102 = .ok (.iload_n 1, 1) := by decide +kernel
theorem dX13_next_103 : decode cX13_next 103 = .ok (.invokestatic 179, 3) := by decide +kernel
theorem dX13_next_106 : decode cX13_next 106 = .ok (.ifCond .ne 34, 3) := by decide +kernel
theorem dX13_next_109 : decode cX13_next 109 = .ok (.aload_n 0, 1) := by decide +kernel
theorem dX13_next_110 : decode cX13_next 110 = .ok (.iload_n 1, 1) := by decide +kernel
theorem dX13_next_111 : decode cX13_next 111 = .ok (.bipush 59, 2) := by decide +kernel
theorem dX13_next_113 : decode cX13_next 113 = .ok (.if_icmp .ne 7, 3) := by decide +kernel
theorem dX13_next_116 : decode cX13_next 116 = .ok (.iconst 3, 1) := by decide +kernel
theorem dX13_next_117 : decode cX13_next 117 = .ok (.goto 4, 3) := by decide +kernel
theorem dX13_next_120 : decode cX13_next 120 = .ok (.iconst 4, 1) := by decide +kernel
theorem dX13_next_121 : decode cX13_next 121 = .ok (.putfield 172, 3) := by decide +kernel
theorem dX13_next_124 : decode cX13_next 124 = .ok (.aload_n 0, 1) := by decide +kernel
theorem dX13_next_125 : decode cX13_next 125 = .ok (.iload_n 1, 1) := by decide +kernel
theorem dX13_next_126 : decode cX13_next 126 = .ok (.putfield 182, 3) := by decide +kernel
theorem dX13_next_129 : decode cX13_next 129 = .ok (.aload_n 0, 1) := by decide +kernel
theorem dX13_next_130 : decode cX13_next 130 = .ok (.dup, 1) := by decide +kernel
theorem dX13_next_131 : decode cX13_next 131 = .ok (.getfield 21, 3) := by decide +kernel
theorem dX13_next_134 : decode cX13_next 134 = .ok (.iconst 1, 1) := by decide +kernel
theorem dX13_next_135 : decode cX13_next 135 = .ok (.iadd, 1) := by decide +kernel
theorem dX13_next_136 : decode cX13_next 136 = .ok (.putfield 21, 3) := by decide +kernel
theorem dX13_next_139 : decode cX13_next 139 = .ok (.return_, 1) := by decide +kernel
theorem dX13_next_140 : decode cX13_next 140 = .ok (.iload_n 1, 1) := by decide +kernel
theorem dX13_next_141 : decode cX13_next 141 = .ok (.invokestatic 175, 3) := by decide +kernel
theorem dX13_next_144 : decode cX13_next 144 = .ok (.istore_n 2, 1) := by decide +kernel
theorem dX13_next_145 : decode cX13_next 145 = .ok (.iconst 1, 1) := by decide +kernel
theorem dX13_next_146 : decode cX13_next 146 = .ok (.istore_n 3, 1) := by decide +kernel
theorem dX13_next_147 : decode cX13_next 147 = .ok (.aload_n 0, 1) := by decide +kernel
theorem dX13_next_148 : decode cX13_next 148 = .ok (.lconst 0, 1) := by decide +kernel
theorem dX13_next_149 : decode cX13_next 149 = .ok (.putfield 185, 3) := by decide +kernel
theorem dX13_next_152 : decode cX13_next 152 = .ok (.aload_n 0, 1) := by decide +kernel
theorem dX13_next_153 : decode cX13_next 153 = .ok (.iconst 0, 1) := by decide +kernel
theorem dX13_next_154 : decode cX13_next 154 = .ok (.putfield 182, 3) := by decide +kernel
theorem dX13_next_157 : decode cX13_next 157 = .ok (.aload_n 0, 1) := by decide +kernel
theorem dX13_next_158 : decode cX13_next 158 = .ok (.invokevirtual 162, 3) := by decide +kernel
theorem dX13_next_161 : decode cX13_next 161 = .ok (.invokestatic 175, 3) := by decide +kernel
theorem dX13_next_164 : decode cX13_next 164 = .ok (.ifCond .ne 13, 3) := by decide +kernel
theorem dX13_next_167 : decode cX13_next 167 = .ok (.aload_n 0, 1) := by decide +kernel
theorem dX13_next_168 : decode cX13_next 168 = .ok (.invokevirtual 162, 3) := by decide +kernel
theorem dX13_next_171 : decode cX13_next 171 = .ok (.invokestatic 179, 3) := by decide +kernel
theorem dX13_next_174 : decode cX13_next 174 = .ok (.ifCond .eq 100, 3) := by decide +kernel
theorem dX13_next_177 : decode cX13_next 177 = .ok (.iload_n 3, 1) := by decide +kernel
theorem dX13_next_178 : decode cX13_next 178 = .ok (.ifCond .eq 18, 3) := by decide +kernel
theorem dX13_next_181 : decode cX13_next 181 = .ok (.aload_n 0, 1) := by decide +kernel
theorem dX13_next_182 : decode cX13_next 182 = .ok (.invokevirtual 162, 3) := by decide +kernel
theorem dX13_next_185 : decode cX13_next 185 = .ok (.invokestatic 175, 3) := by decide +kernel
theorem dX13_next_188 : decode cX13_next 188 = .ok (.iload_n 2, 1) := by decide +kernel
theorem dX13_next_189 : decode cX13_next 189 = .ok (.if_icmp .ne 7, 3) := by decide +kernel
theorem dX13_next_192 : decode cX13_next 192 = .ok (.iconst 1, 1) := by decide +kernel
theorem dX13_next_193 : decode cX13_next 193 = .ok (.goto 4, 3) := by decide +kernel
theorem dX13_next_196 : decode cX13_next 196 = .ok (.iconst 0, 1) := by decide +kernel
theorem dX13_next_197 : decode cX13_next 197 = .ok (.istore_n 3, 1) := by decide +kernel
theorem dX13_next_198 : decode cX13_next 198 = .ok (.aload_n 0, 1) := by decide +kernel
theorem dX13_next_199 : decode cX13_next 199 = .ok (.getfield 169, 3) := by decide +kernel
theorem dX13_next_202 : decode cX13_next 202 = .ok (.bipush 6, 2) := by decide +kernel
theorem dX13_next_204 : decode cX13_next 204 = .ok (.if_icmp .ge 20, 3) := by decide +kernel
theorem dX13_next_207 : decode cX13_next 207 = .ok (.aload_n 0, 1) := by decide +kernel
theorem dX13_next_208 : decode cX13_next 208 = .ok (.aload_n 0, 1) := by decide +kernel
theorem dX13_next_209 : decode cX13_next 209 = .ok (.getfield 185, 3) := by decide +kernel
theorem dX13_next_212 : decode cX13_next 212 = .ok (.bipush 8, 2) := by decide +kernel
theorem dX13_next_214 : decode cX13_next 214 = .ok (.lshl, 1) := by decide +kernel
theorem dX13_next_215 : decode cX13_next 215 = .ok (.aload_n 0, 1) := by decide +kernel
theorem dX13_next_216 : decode cX13_next 216 = .ok (.invokevirtual 162, 3) := by decide +kernel
theorem dX13_next_219 : decode cX13_next 219 = .ok (.i2l, 1) := by decide +kernel
theorem dX13_next_220 : decode cX13_next 220 = .ok (.lor, 1) := by decide +kernel
theorem dX13_next_221 : decode cX13_next 221 = .ok (.putfield 185, 3) := by decide +kernel
theorem dX13_next_224 : decode cX13_next 224 = .ok (.aload_n 0, 1) := by decide +kernel
theorem dX13_next_225 : decode cX13_next 225 = .ok (.getfield 169, 3) := by decide +kernel
theorem dX13_next_228 : decode cX13_next 228 = .ok (.iconst 2, 1) := by decide +kernel
theorem dX13_next_229 : decode cX13_next 229 = .ok (.if_icmp .ge 22, 3) := by decide +kernel
theorem dX13_next_232 : decode cX13_next 232 = .ok (.aload_n 0, 1) := by decide +kernel
theorem dX13_next_233 : decode cX13_next 233 = .ok (.bipush 10, 2) := by decide +kernel
theorem dX13_next_235 : decode cX13_next 235 = .ok (.aload_n 0, 1) := by decide +kernel
theorem dX13_next_236 : decode cX13_next 236 = .ok (.getfield 182, 3) := by decide +kernel
theorem dX13_next_239 : decode cX13_next 239 = .ok (.imul, 1) := by decide +kernel
theorem dX13_next_240 : decode cX13_next 240 = .ok (.aload_n 0, 1) := by decide +kernel
theorem dX13_next_241 : decode cX13_next 241 = .ok (.invokevirtual 162, 3) := by decide +kernel
theorem dX13_next_244 : decode cX13_next 244 = .ok (.iadd, 1) := by decide +kernel
theorem dX13_next_245 : decode cX13_next 245 = .ok (.bipush 48, 2) := by decide +kernel
theorem dX13_next_247 : decode cX13_next 247 = .ok (.isub, 1) := by decide +kernel
theorem dX13_next_248 : decode cX13_next 248 = .ok (.putfield 182, 3) := by decide +kernel
theorem dX13_next_251 : decode cX13_next 251 = .ok (.aload_n 0, 1) := by decide +kernel
theorem dX13_next_252 : decode cX13_next 252 = .ok (.dup, 1) := by decide +kernel
theorem dX13_next_253 : decode cX13_next 253 = .ok (.getfield 169, 3) := by decide +kernel
theorem dX13_next_256 : decode cX13_next 256 = .ok (.iconst 1, 1) := by decide +kernel
theorem dX13_next_257 : decode cX13_next 257 = .ok (.iadd, 1) := by decide +kernel
theorem dX13_next_258 : decode cX13_next 258 = .ok (.putfield 169, 3) := by decide +kernel
theorem dX13_next_261 : decode cX13_next 261 = .ok (.aload_n 0, 1) := by decide +kernel
theorem dX13_next_262 : decode cX13_next 262 = .ok (.dup, 1) := by decide +kernel
theorem dX13_next_263 : decode cX13_next 263 = .ok (.getfield 21, 3) := by decide +kernel
theorem dX13_next_266 : decode cX13_next 266 = .ok (.iconst 1, 1) := by decide +kernel
theorem dX13_next_267 : decode cX13_next 267 = .ok (.iadd, 1) := by decide +kernel
theorem dX13_next_268 : decode cX13_next 268 = .ok (.putfield 21, 3) := by decide +kernel
theorem dX13_next_271 : decode cX13_next 271 = .ok (.goto (-114), 3) := by decide +kernel
theorem dX13_next_274 : decode cX13_next 274 = .ok (.aload_n 0, 1) := by decide +kernel
theorem dX13_next_275 : decode cX13_next 275 = .ok (.iload_n 3, 1) := by decide +kernel
theorem dX13_next_276 : decode cX13_next 276 = .ok (.ifCond .eq 20, 3) := by decide +kernel
theorem dX13_next_279 : decode cX13_next 279 = .ok (.aload_n 0, 1) := by decide +kernel
theorem dX13_next_280 : decode cX13_next 280 = .ok (.getfield 169, 3) := by decide +kernel
theorem dX13_next_283 : decode cX13_next 283 = .ok (.iload_n 2, 1) := by decide +kernel
theorem dX13_next_284 : decode cX13_next 284 = .ok (.ifCond .eq 8, 3) := by decide +kernel
theorem dX13_next_287 : decode cX13_next 287 = .ok (.bipush 6, 2) := by decide +kernel
theorem dX13_next_289 : decode cX13_next 289 = .ok (.goto 4, 3) := by decide +kernel
theorem dX13_next_292 : decode cX13_next 292 = .ok (.iconst 2, 1) := by decide +kernel
theorem dX13_next_293 : decode cX13_next 293 = .ok (.if_icmp .le 7, 3) := by decide +kernel
theorem dX13_next_296 : decode cX13_next 296 = .ok (.iconst 4, 1) := by decide +kernel
theorem dX13_next_297 : decode cX13_next 297 = .ok (.goto 12, 3) := by decide +kernel
theorem dX13_next_300 : decode cX13_next 300 = .ok (.iload_n 2, 1) := by decide +kernel
theorem dX13_next_301 : decode cX13_next 301 = .ok (.ifCond .eq 7, 3) := by decide +kernel
theorem dX13_next_304 : decode cX13_next 304 = .ok (.iconst 1, 1) := by decide +kernel
theorem dX13_next_305 : decode cX13_next 305 = .ok (.goto 4, 3) := by decide +kernel
theorem dX13_next_308 : decode cX13_next 308 = .ok (.iconst 2, 1) := by decide +kernel
theorem dX13_next_309 : decode cX13_next 309 = .ok (.putfield 172, 3) := by decide +kernel
theorem dX13_next_312 : decode cX13_next 312 = .ok (.return_, 1) := by decide +kernel
theorem dX13_bad_0 : decode cX13_bad 0 = .ok (.aload_n 0, 1) := by decide +kernel
theorem dX13_bad_1 : decode cX13_bad 1 = .ok (.iload_n 1, 1) := by decide +kernel
theorem dX13_bad_2 : decode cX13_bad 2 = .ok (.putfield 189, 3) := by decide +kernel
theorem dX13_bad_5 : decode cX13_bad 5 = .ok (.aload_n 0, 1) := by decide +kernel
theorem dX13_bad_6 : decode cX13_bad 6 = .ok (.aload_n 0, 1) := by decide +kernel
theorem dX13_bad_7 : decode cX13_bad 7 = .ok (.getfield 166, 3) := by decide +kernel
theorem dX13_bad_10 : decode cX13_bad 10 = .ok (.putfield 192, 3) := by decide +kernel
theorem dX13_bad_13 : decode cX13_bad 13 = .ok (.iconst 0, 1) := by decide +kernel
theorem dX13_bad_14 : decode cX13_bad 14 = .ok (.ireturn, 1) := by decide +kernel
theorem dX13_isWord_0 : decode cX13_isWord 0 = .ok (.aload_n 0, 1) := by decide +kernel
theorem dX13_isWord_1 : decode cX13_isWord 1 = .ok (.getfield 172, 3) := by decide +kernel
theorem dX13_isWord_4 : decode cX13_isWord 4 = .ok (.iconst 1, 1) := by decide +kernel
theorem dX13_isWord_5 : decode cX13_isWord 5 = .ok (.if_icmp .ne 16, 3) := by decide +kernel
theorem dX13_isWord_8 : decode cX13_isWord 8 = .ok (.aload_n 0, 1) := by decide +kernel
theorem dX13_isWord_9 : decode cX13_isWord 9 = .ok (.getfield 185, 3) := by decide +kernel
theorem dX13_isWord_12 : decode cX13_isWord 12 = .ok (.lload_n 1, 1) := by decide +kernel
theorem dX13_isWord_13 : decode cX13_isWord 13 = .ok (.lcmp, 1) := by decide +kernel
theorem dX13_isWord_14 : decode cX13_isWord 14 = .ok (.ifCond .ne 7, 3) := by decide +kernel
theorem dX13_isWord_17 : decode cX13_isWord 17 = .ok (.iconst 1, 1) := by decide +kernel
theorem dX13_isWord_18 : decode cX13_isWord 18 = .ok (.goto 4, 3) := by decide +kernel
theorem dX13_isWord_21 : decode cX13_isWord 21 = .ok (.iconst 0, 1) := by decide +kernel
theorem dX13_isWord_22 : decode cX13_isWord 22 = .ok (.ireturn, 1) := by decide +kernel
theorem dX13_isSign_0 : decode cX13_isSign 0 = .ok (.aload_n 0, 1) := by decide +kernel
theorem dX13_isSign_1 : decode cX13_isSign 1 = .ok (.getfield 172, 3) := by decide +kernel
theorem dX13_isSign_4 : decode cX13_isSign 4 = .ok (.iconst 3, 1) := by decide +kernel
theorem dX13_isSign_5 : decode cX13_isSign 5 = .ok (.if_icmp .ne 15, 3) := by decide +kernel
theorem dX13_isSign_8 : decode cX13_isSign 8 = .ok (.aload_n 0, 1) := by decide +kernel
theorem dX13_isSign_9 : decode cX13_isSign 9 = .ok (.getfield 182, 3) := by decide +kernel
theorem dX13_isSign_12 : decode cX13_isSign 12 = .ok (.iload_n 1, 1) := by decide +kernel
theorem dX13_isSign_13 : decode cX13_isSign 13 = .ok (.if_icmp .ne 7, 3) := by decide +kernel
theorem dX13_isSign_16 : decode cX13_isSign 16 = .ok (.iconst 1, 1) := by decide +kernel
theorem dX13_isSign_17 : decode cX13_isSign 17 = .ok (.goto 4, 3) := by decide +kernel
theorem dX13_isSign_20 : decode cX13_isSign 20 = .ok (.iconst 0, 1) := by decide +kernel
theorem dX13_isSign_21 : decode cX13_isSign 21 = .ok (.ireturn, 1) := by decide +kernel
theorem dX13_sign_0 : decode cX13_sign 0 = .ok (.aload_n 0, 1) := by decide +kernel
theorem dX13_sign_1 : decode cX13_sign 1 = .ok (.iload_n 1, 1) := by decide +kernel
theorem dX13_sign_2 : decode cX13_sign 2 = .ok (.invokevirtual 195, 3) := by decide +kernel
theorem dX13_sign_5 : decode cX13_sign 5 = .ok (.ifCond .ne 9, 3) := by decide +kernel
theorem dX13_sign_8 : decode cX13_sign 8 = .ok (.aload_n 0, 1) := by decide +kernel
theorem dX13_sign_9 : decode cX13_sign 9 = .ok (.iconst 1, 1) := by decide +kernel
theorem dX13_sign_10 : decode cX13_sign 10 = .ok (.invokevirtual 198, 3) := by decide +kernel
theorem dX13_sign_13 : decode cX13_sign 13 = .ok (.ireturn, 1) := by decide +kernel
theorem dX13_sign_14 : decode cX13_sign 14 = .ok (.aload_n 0, 1) := by decide +kernel
theorem dX13_sign_15 : decode cX13_sign 15 = .ok (.invokevirtual 201, 3) := by decide +kernel
theorem dX13_sign_18 : decode cX13_sign 18 = .ok (.iconst 1, 1) := by decide +kernel
theorem dX13_sign_19 : decode cX13_sign 19 = .ok (.ireturn, 1) := by decide +kernel
theorem dX13_isName_0 : decode cX13_isName 0 = .ok (.aload_n 0, 1) := by decide +kernel
theorem dX13_isName_1 : decode cX13_isName 1 = .ok (.getfield 172, 3) := by decide +kernel
theorem dX13_isName_4 : decode cX13_isName 4 = .ok (.iconst 1, 1) := by decide +kernel
theorem dX13_isName_5 : decode cX13_isName 5 = .ok (.if_icmp .ne 7, 3) := by decide +kernel
theorem dX13_isName_8 : decode cX13_isName 8 = .ok (.iconst 1, 1) := by decide +kernel
theorem dX13_isName_9 : decode cX13_isName 9 = .ok (.goto 4, 3) := by decide +kernel
theorem dX13_isName_12 : decode cX13_isName 12 = .ok (.iconst 0, 1) := by decide +kernel
theorem dX13_isName_13 : decode cX13_isName 13 = .ok (.istore_n 1, 1) := by decide +kernel
theorem dX13_isName_14 : decode cX13_isName 14 = .ok (.iconst 0, 1) := by decide +kernel
theorem dX13_isName_15 : decode cX13_isName 15 = .ok (.istore_n 2, 1) := by decide +kernel
theorem dX13_isName_16 : decode cX13_isName 16 = .ok (.iload_n 2, 1) := by decide +kernel
theorem dX13_isName_17 : decode cX13_isName 17 = .ok (.bipush 16, 2) := by decide +kernel
theorem dX13_isName_19 : decode cX13_isName 19 = .ok (.if_icmp .ge 33, 3) := by decide +kernel
theorem dX13_isName_22 : decode cX13_isName 22 = .ok (.iload_n 1, 1) := by decide +kernel
theorem dX13_isName_23 : decode cX13_isName 23 = .ok (.ifCond .eq 21, 3) := by decide +kernel
theorem dX13_isName_26 : decode cX13_isName 26 = .ok (.aload_n 0, 1) := by decide +kernel
theorem dX13_isName_27 : decode cX13_isName 27 = .ok (.getfield 185, 3) := by decide +kernel
theorem dX13_isName_30 : decode cX13_isName 30 = .ok (.aload_n 0, 1) := by decide +kernel
theorem dX13_isName_31 : decode cX13_isName 31 = .ok (.getfield 44, 3) := by decide +kernel
theorem dX13_isName_34 : decode cX13_isName 34 = .ok (.iload_n 2, 1) := by decide +kernel
theorem dX13_isName_35 : decode cX13_isName 35 = .ok (.laload, 1) := by decide +kernel
theorem dX13_isName_36 : decode cX13_isName 36 = .ok (.lcmp, 1) := by decide +kernel
theorem dX13_isName_37 : decode cX13_isName 37 = .ok (.ifCond .eq 7, 3) := by decide +kernel
theorem dX13_isName_40 : decode cX13_isName 40 = .ok (.iconst 1, 1) := by decide +kernel
theorem dX13_isName_41 : decode cX13_isName 41 = .ok (.goto 4, 3) := by decide +kernel
theorem dX13_isName_44 : decode cX13_isName 44 = .ok (.iconst 0, 1) := by decide +kernel
theorem dX13_isName_45 : decode cX13_isName 45 = .ok (.istore_n 1, 1) := by decide +kernel
theorem dX13_isName_46 : decode cX13_isName 46 = .ok (.iinc 2 1, 3) := by decide +kernel
theorem dX13_isName_49 : decode cX13_isName 49 = .ok (.goto (-33), 3) := by decide +kernel
theorem dX13_isName_52 : decode cX13_isName 52 = .ok (.iload_n 1, 1) := by decide +kernel
theorem dX13_isName_53 : decode cX13_isName 53 = .ok (.ireturn, 1) := by decide +kernel
theorem dX13_takes_0 : decode cX13_takes 0 = .ok (.aload_n 0, 1) := by decide +kernel
theorem dX13_takes_1 : decode cX13_takes 1 = .ok (.getfield 172, 3) := by decide +kernel
theorem dX13_takes_4 : decode cX13_takes 4 = .ok (.iconst 2, 1) := by decide +kernel
theorem dX13_takes_5 : decode cX13_takes 5 = .ok (.if_icmp .eq 9, 3) := by decide +kernel
theorem dX13_takes_8 : decode cX13_takes 8 = .ok (.aload_n 0, 1) := by decide +kernel
theorem dX13_takes_9 : decode cX13_takes 9 = .ok (.iconst 1, 1) := by decide +kernel
theorem dX13_takes_10 : decode cX13_takes 10 = .ok (.invokevirtual 198, 3) := by decide +kernel
theorem dX13_takes_13 : decode cX13_takes 13 = .ok (.ireturn, 1) := by decide +kernel
theorem dX13_takes_14 : decode cX13_takes 14 = .ok (.aload_n 0, 1) := by decide +kernel
theorem dX13_takes_15 : decode cX13_takes 15 = .ok (.getfield 182, 3) := by decide +kernel
theorem dX13_takes_18 : decode cX13_takes 18 = .ok (.iload_n 1, 1) := by decide +kernel
theorem dX13_takes_19 : decode cX13_takes 19 = .ok (.iload_n 2, 1) := by decide +kernel
theorem dX13_takes_20 : decode cX13_takes 20 = .ok (.invokestatic 204, 3) := by decide +kernel
theorem dX13_takes_23 : decode cX13_takes 23 = .ok (.ifCond .ne 9, 3) := by decide +kernel
theorem dX13_takes_26 : decode cX13_takes 26 = .ok (.aload_n 0, 1) := by decide +kernel
theorem dX13_takes_27 : decode cX13_takes 27 = .ok (.iconst 2, 1) := by decide +kernel
theorem dX13_takes_28 : decode cX13_takes 28 = .ok (.invokevirtual 198, 3) := by decide +kernel
theorem dX13_takes_31 : decode cX13_takes 31 = .ok (.ireturn, 1) := by decide +kernel
theorem dX13_takes_32 : decode cX13_takes 32 = .ok (.aload_n 0, 1) := by decide +kernel
theorem dX13_takes_33 : decode cX13_takes 33 = .ok (.aload_n 0, 1) := by decide +kernel
theorem dX13_takes_34 : decode cX13_takes 34 = .ok (.getfield 182, 3) := by decide +kernel
theorem dX13_takes_37 : decode cX13_takes 37 = .ok (.putfield 208, 3) := by decide +kernel
theorem dX13_takes_40 : decode cX13_takes 40 = .ok (.aload_n 0, 1) := by decide +kernel
theorem dX13_takes_41 : decode cX13_takes 41 = .ok (.invokevirtual 201, 3) := by decide +kernel
theorem dX13_takes_44 : decode cX13_takes 44 = .ok (.iconst 1, 1) := by decide +kernel
theorem dX13_takes_45 : decode cX13_takes 45 = .ok (.ireturn, 1) := by decide +kernel
theorem dX13_find_0 : decode cX13_find 0 = .ok (.iconst 0, 1) := by decide +kernel
theorem dX13_find_1 : decode cX13_find 1 = .ok (.istore_n 3, 1) := by decide +kernel
theorem dX13_find_2 : decode cX13_find 2 = .ok (.iload_n 3, 1) := by decide +kernel
theorem dX13_find_3 : decode cX13_find 3 = .ok (.iload_n 2, 1) := by decide +kernel
theorem dX13_find_4 : decode cX13_find 4 = .ok (.if_icmp .ge 27, 3) := by decide +kernel
theorem dX13_find_7 : decode cX13_find 7 = .ok (.aload_n 0, 1) := by decide +kernel
theorem dX13_find_8 : decode cX13_find 8 = .ok (.getfield 40, 3) := by decide +kernel
theorem dX13_find_11 : decode cX13_find 11 = .ok (.iload_n 1, 1) := by decide +kernel
theorem dX13_find_12 : decode cX13_find 12 = .ok (.iload_n 3, 1) := by decide +kernel
theorem dX13_find_13 : decode cX13_find 13 = .ok (.iadd, 1) := by decide +kernel
theorem dX13_find_14 : decode cX13_find 14 = .ok (.laload, 1) := by decide +kernel
theorem dX13_find_15 : decode cX13_find 15 = .ok (.aload_n 0, 1) := by decide +kernel
theorem dX13_find_16 : decode cX13_find 16 = .ok (.getfield 185, 3) := by decide +kernel
theorem dX13_find_19 : decode cX13_find 19 = .ok (.lcmp, 1) := by decide +kernel
theorem dX13_find_20 : decode cX13_find 20 = .ok (.ifCond .ne 5, 3) := by decide +kernel
theorem dX13_find_23 : decode cX13_find 23 = .ok (.iload_n 3, 1) := by decide +kernel
theorem dX13_find_24 : decode cX13_find 24 = .ok (.ireturn, 1) := by decide +kernel
theorem dX13_find_25 : decode cX13_find 25 = .ok (.iinc 3 1, 3) := by decide +kernel
theorem dX13_find_28 : decode cX13_find 28 = .ok (.goto (-26), 3) := by decide +kernel
theorem dX13_find_31 : decode cX13_find 31 = .ok (.iconst (-1), 1) := by decide +kernel
theorem dX13_find_32 : decode cX13_find 32 = .ok (.ireturn, 1) := by decide +kernel
theorem dX13_takesName_0 : decode cX13_takesName 0 = .ok (.aload_n 0, 1) := by decide +kernel
theorem dX13_takesName_1 : decode cX13_takesName 1 = .ok (.invokevirtual 211, 3) := by decide +kernel
theorem dX13_takesName_4 : decode cX13_takesName 4 = .ok (.ifCond .ne 9, 3) := by decide +kernel
theorem dX13_takesName_7 : decode cX13_takesName 7 = .ok (.aload_n 0, 1) := by decide +kernel
theorem dX13_takesName_8 : decode cX13_takesName 8 = .ok (.iconst 1, 1) := by decide +kernel
theorem dX13_takesName_9 : decode cX13_takesName 9 = .ok (.invokevirtual 198, 3) := by decide +kernel
theorem dX13_takesName_12 : decode cX13_takesName 12 = .ok (.ireturn, 1) := by decide +kernel
theorem dX13_takesName_13 : decode cX13_takesName 13 = .ok (.aload_n 0, 1) := by decide +kernel
theorem dX13_takesName_14 : decode cX13_takesName 14 = .ok (.aload_n 0, 1) := by decide +kernel
theorem dX13_takesName_15 : decode cX13_takesName 15 = .ok (.iload_n 1, 1) := by decide +kernel
theorem dX13_takesName_16 : decode cX13_takesName 16 = .ok (.iload_n 2, 1) := by decide +kernel
theorem dX13_takesName_17 : decode cX13_takesName 17 = .ok (.invokevirtual 215, 3) := by decide +kernel
theorem dX13_takesName_20 : decode cX13_takesName 20 = .ok (.putfield 208, 3) := by decide +kernel
theorem dX13_takesName_23 : decode cX13_takesName 23 = .ok (.aload_n 0, 1) := by decide +kernel
theorem dX13_takesName_24 : decode cX13_takesName 24 = .ok (.getfield 208, 3) := by decide +kernel
theorem dX13_takesName_27 : decode cX13_takesName 27 = .ok (.ifCond .ge 9, 3) := by decide +kernel
theorem dX13_takesName_30 : decode cX13_takesName 30 = .ok (.aload_n 0, 1) := by decide +kernel
theorem dX13_takesName_31 : decode cX13_takesName 31 = .ok (.iconst 3, 1) := by decide +kernel
theorem dX13_takesName_32 : decode cX13_takesName 32 = .ok (.invokevirtual 198, 3) := by decide +kernel
theorem dX13_takesName_35 : decode cX13_takesName 35 = .ok (.ireturn, 1) := by decide +kernel
theorem dX13_takesName_36 : decode cX13_takesName 36 = .ok (.aload_n 0, 1) := by decide +kernel
theorem dX13_takesName_37 : decode cX13_takesName 37 = .ok (.invokevirtual 201, 3) := by decide +kernel
theorem dX13_takesName_40 : decode cX13_takesName 40 = .ok (.iconst 1, 1) := by decide +kernel
theorem dX13_takesName_41 : decode cX13_takesName 41 = .ok (.ireturn, 1) := by decide +kernel
theorem dX13_fresh_0 : decode cX13_fresh 0 = .ok (.aload_n 0, 1) := by decide +kernel
theorem dX13_fresh_1 : decode cX13_fresh 1 = .ok (.invokevirtual 211, 3) := by decide +kernel
theorem dX13_fresh_4 : decode cX13_fresh 4 = .ok (.ifCond .ne 9, 3) := by decide +kernel
theorem dX13_fresh_7 : decode cX13_fresh 7 = .ok (.aload_n 0, 1) := by decide +kernel
theorem dX13_fresh_8 : decode cX13_fresh 8 = .ok (.iconst 1, 1) := by decide +kernel
theorem dX13_fresh_9 : decode cX13_fresh 9 = .ok (.invokevirtual 198, 3) := by decide +kernel
theorem dX13_fresh_12 : decode cX13_fresh 12 = .ok (.ireturn, 1) := by decide +kernel
theorem dX13_fresh_13 : decode cX13_fresh 13 = .ok (.aload_n 0, 1) := by decide +kernel
theorem dX13_fresh_14 : decode cX13_fresh 14 = .ok (.bipush 16, 2) := by decide +kernel
theorem dX13_fresh_16 : decode cX13_fresh 16 = .ok (.aload_n 0, 1) := by decide +kernel
theorem dX13_fresh_17 : decode cX13_fresh 17 = .ok (.getfield 37, 3) := by decide +kernel
theorem dX13_fresh_20 : decode cX13_fresh 20 = .ok (.iconst 0, 1) := by decide +kernel
theorem dX13_fresh_21 : decode cX13_fresh 21 = .ok (.iaload, 1) := by decide +kernel
theorem dX13_fresh_22 : decode cX13_fresh 22 = .ok (.invokevirtual 215, 3) := by decide +kernel
theorem dX13_fresh_25 : decode cX13_fresh 25 = .ok (.ifCond .ge 33, 3) := by decide +kernel
theorem dX13_fresh_28 : decode cX13_fresh 28 = .ok (.aload_n 0, 1) := by decide +kernel
theorem dX13_fresh_29 : decode cX13_fresh 29 = .ok (.bipush 21, 2) := by decide +kernel
theorem dX13_fresh_31 : decode cX13_fresh 31 = .ok (.aload_n 0, 1) := by decide +kernel
theorem dX13_fresh_32 : decode cX13_fresh 32 = .ok (.getfield 37, 3) := by decide +kernel
theorem dX13_fresh_35 : decode cX13_fresh 35 = .ok (.iconst 1, 1) := by decide +kernel
theorem dX13_fresh_36 : decode cX13_fresh 36 = .ok (.iaload, 1) := by decide +kernel
theorem dX13_fresh_37 : decode cX13_fresh 37 = .ok (.invokevirtual 215, 3) := by decide +kernel
theorem dX13_fresh_40 : decode cX13_fresh 40 = .ok (.ifCond .ge 18, 3) := by decide +kernel
theorem dX13_fresh_43 : decode cX13_fresh 43 = .ok (.aload_n 0, 1) := by decide +kernel
theorem dX13_fresh_44 : decode cX13_fresh 44 = .ok (.bipush 24, 2) := by decide +kernel
theorem dX13_fresh_46 : decode cX13_fresh 46 = .ok (.aload_n 0, 1) := by decide +kernel
theorem dX13_fresh_47 : decode cX13_fresh 47 = .ok (.getfield 37, 3) := by decide +kernel
theorem dX13_fresh_50 : decode cX13_fresh 50 = .ok (.iconst 2, 1) := by decide +kernel
theorem dX13_fresh_51 : decode cX13_fresh 51 = .ok (.iaload, 1) := by decide +kernel
theorem dX13_fresh_52 : decode cX13_fresh 52 = .ok (.invokevirtual 215, 3) := by decide +kernel
theorem dX13_fresh_55 : decode cX13_fresh 55 = .ok (.ifCond .lt 9, 3) := by decide +kernel
theorem dX13_fresh_58 : decode cX13_fresh 58 = .ok (.aload_n 0, 1) := by decide +kernel
theorem dX13_fresh_59 : decode cX13_fresh 59 = .ok (.iconst 3, 1) := by decide +kernel
theorem dX13_fresh_60 : decode cX13_fresh 60 = .ok (.invokevirtual 198, 3) := by decide +kernel
theorem dX13_fresh_63 : decode cX13_fresh 63 = .ok (.ireturn, 1) := by decide +kernel
theorem dX13_fresh_64 : decode cX13_fresh 64 = .ok (.aload_n 0, 1) := by decide +kernel
theorem dX13_fresh_65 : decode cX13_fresh 65 = .ok (.getfield 40, 3) := by decide +kernel
theorem dX13_fresh_68 : decode cX13_fresh 68 = .ok (.iload_n 1, 1) := by decide +kernel
theorem dX13_fresh_69 : decode cX13_fresh 69 = .ok (.aload_n 0, 1) := by decide +kernel
theorem dX13_fresh_70 : decode cX13_fresh 70 = .ok (.getfield 185, 3) := by decide +kernel
theorem dX13_fresh_73 : decode cX13_fresh 73 = .ok (.lastore, 1) := by decide +kernel
theorem dX13_fresh_74 : decode cX13_fresh 74 = .ok (.aload_n 0, 1) := by decide +kernel
theorem dX13_fresh_75 : decode cX13_fresh 75 = .ok (.invokevirtual 201, 3) := by decide +kernel
theorem dX13_fresh_78 : decode cX13_fresh 78 = .ok (.iconst 1, 1) := by decide +kernel
theorem dX13_fresh_79 : decode cX13_fresh 79 = .ok (.ireturn, 1) := by decide +kernel
theorem dX13_line_0 : decode cX13_line 0 = .ok (.aload_n 0, 1) := by decide +kernel
theorem dX13_line_1 : decode cX13_line 1 = .ok (.ldc2_w 127, 3) := by decide +kernel
theorem dX13_line_4 : decode cX13_line 4 = .ok (.invokevirtual 219, 3) := by decide +kernel
theorem dX13_line_7 : decode cX13_line 7 = .ok (.ifCond .eq 8, 3) := by decide +kernel
theorem dX13_line_10 : decode cX13_line 10 = .ok (.aload_n 0, 1) := by decide +kernel
theorem dX13_line_11 : decode cX13_line 11 = .ok (.invokevirtual 223, 3) := by decide +kernel
theorem dX13_line_14 : decode cX13_line 14 = .ok (.ireturn, 1) := by decide +kernel
theorem dX13_line_15 : decode cX13_line 15 = .ok (.aload_n 0, 1) := by decide +kernel
theorem dX13_line_16 : decode cX13_line 16 = .ok (.ldc2_w 133, 3) := by decide +kernel
theorem dX13_line_19 : decode cX13_line 19 = .ok (.invokevirtual 219, 3) := by decide +kernel
theorem dX13_line_22 : decode cX13_line 22 = .ok (.ifCond .eq 53, 3) := by decide +kernel
theorem dX13_line_25 : decode cX13_line 25 = .ok (.aload_n 0, 1) := by decide +kernel
theorem dX13_line_26 : decode cX13_line 26 = .ok (.getfield 37, 3) := by decide +kernel
theorem dX13_line_29 : decode cX13_line 29 = .ok (.iconst 1, 1) := by decide +kernel
theorem dX13_line_30 : decode cX13_line 30 = .ok (.iaload, 1) := by decide +kernel
theorem dX13_line_31 : decode cX13_line 31 = .ok (.iconst 3, 1) := by decide +kernel
theorem dX13_line_32 : decode cX13_line 32 = .ok (.if_icmp .ne 9, 3) := by decide +kernel
theorem dX13_line_35 : decode cX13_line 35 = .ok (.aload_n 0, 1) := by decide +kernel
theorem dX13_line_36 : decode cX13_line 36 = .ok (.iconst 4, 1) := by decide +kernel
theorem dX13_line_37 : decode cX13_line 37 = .ok (.invokevirtual 198, 3) := by decide +kernel
theorem dX13_line_40 : decode cX13_line 40 = .ok (.ireturn, 1) := by decide +kernel
theorem dX13_line_41 : decode cX13_line 41 = .ok (.aload_n 0, 1) := by decide +kernel
theorem dX13_line_42 : decode cX13_line 42 = .ok (.invokevirtual 201, 3) := by decide +kernel
theorem dX13_line_45 : decode cX13_line 45 = .ok (.aload_n 0, 1) := by decide +kernel
theorem dX13_line_46 : decode cX13_line 46 = .ok (.bipush 21, 2) := by decide +kernel
theorem dX13_line_48 : decode cX13_line 48 = .ok (.aload_n 0, 1) := by decide +kernel
theorem dX13_line_49 : decode cX13_line 49 = .ok (.getfield 37, 3) := by decide +kernel
theorem dX13_line_52 : decode cX13_line 52 = .ok (.iconst 1, 1) := by decide +kernel
theorem dX13_line_53 : decode cX13_line 53 = .ok (.iaload, 1) := by decide +kernel
theorem dX13_line_54 : decode cX13_line 54 = .ok (.iadd, 1) := by decide +kernel
theorem dX13_line_55 : decode cX13_line 55 = .ok (.invokevirtual 226, 3) := by decide +kernel
theorem dX13_line_58 : decode cX13_line 58 = .ok (.ifCond .ne 5, 3) := by decide +kernel
theorem dX13_line_61 : decode cX13_line 61 = .ok (.iconst 0, 1) := by decide +kernel
theorem dX13_line_62 : decode cX13_line 62 = .ok (.ireturn, 1) := by decide +kernel
theorem dX13_line_63 : decode cX13_line 63 = .ok (.aload_n 0, 1) := by decide +kernel
theorem dX13_line_64 : decode cX13_line 64 = .ok (.getfield 37, 3) := by decide +kernel
theorem dX13_line_67 : decode cX13_line 67 = .ok (.iconst 1, 1) := by decide +kernel
theorem dX13_line_68 : decode cX13_line 68 = .ok (.dup2, 1) := by decide +kernel
theorem dX13_line_69 : decode cX13_line 69 = .ok (.iaload, 1) := by decide +kernel
theorem dX13_line_70 : decode cX13_line 70 = .ok (.iconst 1, 1) := by decide +kernel
theorem dX13_line_71 : decode cX13_line 71 = .ok (.iadd, 1) := by decide +kernel
theorem dX13_line_72 : decode cX13_line 72 = .ok (.iastore, 1) := by decide +kernel
theorem dX13_line_73 : decode cX13_line 73 = .ok (.iconst 1, 1) := by decide +kernel
theorem dX13_line_74 : decode cX13_line 74 = .ok (.ireturn, 1) := by decide +kernel
theorem dX13_line_75 : decode cX13_line 75 = .ok (.aload_n 0, 1) := by decide +kernel
theorem dX13_line_76 : decode cX13_line 76 = .ok (.ldc2_w 135, 3) := by decide +kernel
theorem dX13_line_79 : decode cX13_line 79 = .ok (.invokevirtual 219, 3) := by decide +kernel
theorem dX13_line_82 : decode cX13_line 82 = .ok (.ifCond .eq 8, 3) := by decide +kernel
theorem dX13_line_85 : decode cX13_line 85 = .ok (.aload_n 0, 1) := by decide +kernel
theorem dX13_line_86 : decode cX13_line 86 = .ok (.invokevirtual 229, 3) := by decide +kernel
theorem dX13_line_89 : decode cX13_line 89 = .ok (.ireturn, 1) := by decide +kernel
theorem dX13_line_90 : decode cX13_line 90 = .ok (.aload_n 0, 1) := by decide +kernel
theorem dX13_line_91 : decode cX13_line 91 = .ok (.ldc2_w 137, 3) := by decide +kernel
theorem dX13_line_94 : decode cX13_line 94 = .ok (.invokevirtual 219, 3) := by decide +kernel
theorem dX13_line_97 : decode cX13_line 97 = .ok (.ifCond .eq 8, 3) := by decide +kernel
theorem dX13_line_100 : decode cX13_line 100 = .ok (.aload_n 0, 1) := by decide +kernel
theorem dX13_line_101 : decode cX13_line 101 = .ok (.invokevirtual 232, 3) := by decide +kernel
theorem dX13_line_104 : decode cX13_line 104 = .ok (.ireturn, 1) := by decide +kernel
theorem dX13_line_105 : decode cX13_line 105 = .ok (.aload_n 0, 1) := by decide +kernel
theorem dX13_line_106 : decode cX13_line 106 = .ok (.ldc2_w 147, 3) := by decide +kernel
theorem dX13_line_109 : decode cX13_line 109 = .ok (.invokevirtual 219, 3) := by decide +kernel
theorem dX13_line_112 : decode cX13_line 112 = .ok (.ifCond .eq 8, 3) := by decide +kernel
theorem dX13_line_115 : decode cX13_line 115 = .ok (.aload_n 0, 1) := by decide +kernel
theorem dX13_line_116 : decode cX13_line 116 = .ok (.invokevirtual 235, 3) := by decide +kernel
theorem dX13_line_119 : decode cX13_line 119 = .ok (.ireturn, 1) := by decide +kernel
theorem dX13_line_120 : decode cX13_line 120 = .ok (.aload_n 0, 1) := by decide +kernel
theorem dX13_line_121 : decode cX13_line 121 = .ok (.ldc2_w 155, 3) := by decide +kernel
theorem dX13_line_124 : decode cX13_line 124 = .ok (.invokevirtual 219, 3) := by decide +kernel
theorem dX13_line_127 : decode cX13_line 127 = .ok (.ifCond .eq 8, 3) := by decide +kernel
theorem dX13_line_130 : decode cX13_line 130 = .ok (.aload_n 0, 1) := by decide +kernel
theorem dX13_line_131 : decode cX13_line 131 = .ok (.invokevirtual 238, 3) := by decide +kernel
theorem dX13_line_134 : decode cX13_line 134 = .ok (.ireturn, 1) := by decide +kernel
theorem dX13_line_135 : decode cX13_line 135 = .ok (.aload_n 0, 1) := by decide +kernel
theorem dX13_line_136 : decode cX13_line 136 = .ok (.ldc2_w 157, 3) := by decide +kernel
theorem dX13_line_139 : decode cX13_line 139 = .ok (.invokevirtual 219, 3) := by decide +kernel
theorem dX13_line_142 : decode cX13_line 142 = .ok (.ifCond .eq 10, 3) := by decide +kernel
theorem dX13_line_145 : decode cX13_line 145 = .ok (.aload_n 0, 1) := by decide +kernel
theorem dX13_line_146 : decode cX13_line 146 = .ok (.invokevirtual 241, 3) := by decide +kernel
theorem dX13_line_149 : decode cX13_line 149 = .ok (.goto 8, 3) := by decide +kernel
theorem dX13_line_152 : decode cX13_line 152 = .ok (.aload_n 0, 1) := by decide +kernel
theorem dX13_line_153 : decode cX13_line 153 = .ok (.iconst 1, 1) := by decide +kernel
theorem dX13_line_154 : decode cX13_line 154 = .ok (.invokevirtual 198, 3) := by decide +kernel
theorem dX13_line_157 : decode cX13_line 157 = .ok (.ireturn, 1) := by decide +kernel
theorem dX13_readSort_0 : decode cX13_readSort 0 = .ok (.aload_n 0, 1) := by decide +kernel
theorem dX13_readSort_1 : decode cX13_readSort 1 = .ok (.getfield 37, 3) := by decide +kernel
theorem dX13_readSort_4 : decode cX13_readSort 4 = .ok (.iconst 0, 1) := by decide +kernel
theorem dX13_readSort_5 : decode cX13_readSort 5 = .ok (.iaload, 1) := by decide +kernel
theorem dX13_readSort_6 : decode cX13_readSort 6 = .ok (.istore_n 1, 1) := by decide +kernel
theorem dX13_readSort_7 : decode cX13_readSort 7 = .ok (.iload_n 1, 1) := by decide +kernel
theorem dX13_readSort_8 : decode cX13_readSort 8 = .ok (.iconst 5, 1) := by decide +kernel
theorem dX13_readSort_9 : decode cX13_readSort 9 = .ok (.if_icmp .ne 9, 3) := by decide +kernel
theorem dX13_readSort_12 : decode cX13_readSort 12 = .ok (.aload_n 0, 1) := by decide +kernel
theorem dX13_readSort_13 : decode cX13_readSort 13 = .ok (.iconst 4, 1) := by decide +kernel
theorem dX13_readSort_14 : decode cX13_readSort 14 = .ok (.invokevirtual 198, 3) := by decide +kernel
theorem dX13_readSort_17 : decode cX13_readSort 17 = .ok (.ireturn, 1) := by decide +kernel
theorem dX13_readSort_18 : decode cX13_readSort 18 = .ok (.aload_n 0, 1) := by decide +kernel
theorem dX13_readSort_19 : decode cX13_readSort 19 = .ok (.invokevirtual 201, 3) := by decide +kernel
theorem dX13_readSort_22 : decode cX13_readSort 22 = .ok (.aload_n 0, 1) := by decide +kernel
theorem dX13_readSort_23 : decode cX13_readSort 23 = .ok (.bipush 16, 2) := by decide +kernel
theorem dX13_readSort_25 : decode cX13_readSort 25 = .ok (.iload_n 1, 1) := by decide +kernel
theorem dX13_readSort_26 : decode cX13_readSort 26 = .ok (.iadd, 1) := by decide +kernel
theorem dX13_readSort_27 : decode cX13_readSort 27 = .ok (.invokevirtual 226, 3) := by decide +kernel
theorem dX13_readSort_30 : decode cX13_readSort 30 = .ok (.ifCond .ne 5, 3) := by decide +kernel
theorem dX13_readSort_33 : decode cX13_readSort 33 = .ok (.iconst 0, 1) := by decide +kernel
theorem dX13_readSort_34 : decode cX13_readSort 34 = .ok (.ireturn, 1) := by decide +kernel
theorem dX13_readSort_35 : decode cX13_readSort 35 = .ok (.aload_n 0, 1) := by decide +kernel
theorem dX13_readSort_36 : decode cX13_readSort 36 = .ok (.getfield 37, 3) := by decide +kernel
theorem dX13_readSort_39 : decode cX13_readSort 39 = .ok (.iconst 5, 1) := by decide +kernel
theorem dX13_readSort_40 : decode cX13_readSort 40 = .ok (.iload_n 1, 1) := by decide +kernel
theorem dX13_readSort_41 : decode cX13_readSort 41 = .ok (.iadd, 1) := by decide +kernel
theorem dX13_readSort_42 : decode cX13_readSort 42 = .ok (.iconst 0, 1) := by decide +kernel
theorem dX13_readSort_43 : decode cX13_readSort 43 = .ok (.iastore, 1) := by decide +kernel
theorem dX13_readSort_44 : decode cX13_readSort 44 = .ok (.aload_n 0, 1) := by decide +kernel
theorem dX13_readSort_45 : decode cX13_readSort 45 = .ok (.getfield 37, 3) := by decide +kernel
theorem dX13_readSort_48 : decode cX13_readSort 48 = .ok (.bipush 10, 2) := by decide +kernel
theorem dX13_readSort_50 : decode cX13_readSort 50 = .ok (.iload_n 1, 1) := by decide +kernel
theorem dX13_readSort_51 : decode cX13_readSort 51 = .ok (.iadd, 1) := by decide +kernel
theorem dX13_readSort_52 : decode cX13_readSort 52 = .ok (.iconst 0, 1) := by decide +kernel
theorem dX13_readSort_53 : decode cX13_readSort 53 = .ok (.iastore, 1) := by decide +kernel
theorem dX13_readSort_54 : decode cX13_readSort 54 = .ok (.aload_n 0, 1) := by decide +kernel
theorem dX13_readSort_55 : decode cX13_readSort 55 = .ok (.ldc2_w 129, 3) := by decide +kernel
theorem dX13_readSort_58 : decode cX13_readSort 58 = .ok (.invokevirtual 219, 3) := by decide +kernel
theorem dX13_readSort_61 : decode cX13_readSort 61 = .ok (.ifCond .ne 13, 3) := by decide +kernel
theorem dX13_readSort_64 : decode cX13_readSort 64 = .ok (.aload_n 0, 1) := by decide +kernel
theorem dX13_readSort_65 : decode cX13_readSort 65 = .ok (.ldc2_w 131, 3) := by decide +kernel
theorem dX13_readSort_68 : decode cX13_readSort 68 = .ok (.invokevirtual 219, 3) := by decide +kernel
theorem dX13_readSort_71 : decode cX13_readSort 71 = .ok (.ifCond .eq 52, 3) := by decide +kernel
theorem dX13_readSort_74 : decode cX13_readSort 74 = .ok (.aload_n 0, 1) := by decide +kernel
theorem dX13_readSort_75 : decode cX13_readSort 75 = .ok (.ldc2_w 129, 3) := by decide +kernel
theorem dX13_readSort_78 : decode cX13_readSort 78 = .ok (.invokevirtual 219, 3) := by decide +kernel
theorem dX13_readSort_81 : decode cX13_readSort 81 = .ok (.ifCond .eq 7, 3) := by decide +kernel
theorem dX13_readSort_84 : decode cX13_readSort 84 = .ok (.iconst 5, 1) := by decide +kernel
theorem dX13_readSort_85 : decode cX13_readSort 85 = .ok (.goto 5, 3) := by decide +kernel
theorem dX13_readSort_88 : decode cX13_readSort 88 = .ok (.bipush 10, 2) := by decide +kernel
theorem dX13_readSort_90 : decode cX13_readSort 90 = .ok (.iload_n 1, 1) := by decide +kernel
theorem dX13_readSort_91 : decode cX13_readSort 91 = .ok (.iadd, 1) := by decide +kernel
theorem dX13_readSort_92 : decode cX13_readSort 92 = .ok (.istore_n 2, 1) := by decide +kernel
theorem dX13_readSort_93 : decode cX13_readSort 93 = .ok (.aload_n 0, 1) := by decide +kernel
theorem dX13_readSort_94 : decode cX13_readSort 94 = .ok (.getfield 37, 3) := by decide +kernel
theorem dX13_readSort_97 : decode cX13_readSort 97 = .ok (.iload_n 2, 1) := by decide +kernel
theorem dX13_readSort_98 : decode cX13_readSort 98 = .ok (.iaload, 1) := by decide +kernel
theorem dX13_readSort_99 : decode cX13_readSort 99 = .ok (.iconst 1, 1) := by decide +kernel
theorem dX13_readSort_100 : decode cX13_readSort 100 = .ok (.if_icmp .ne 9, 3) := by decide +kernel
theorem dX13_readSort_103 : decode cX13_readSort 103 = .ok (.aload_n 0, 1) := by decide +kernel
theorem dX13_readSort_104 : decode cX13_readSort 104 = .ok (.iconst 3, 1) := by decide +kernel
theorem dX13_readSort_105 : decode cX13_readSort 105 = .ok (.invokevirtual 198, 3) := by decide +kernel
theorem dX13_readSort_108 : decode cX13_readSort 108 = .ok (.ireturn, 1) := by decide +kernel
theorem dX13_readSort_109 : decode cX13_readSort 109 = .ok (.aload_n 0, 1) := by decide +kernel
theorem dX13_readSort_110 : decode cX13_readSort 110 = .ok (.getfield 37, 3) := by decide +kernel
theorem dX13_readSort_113 : decode cX13_readSort 113 = .ok (.iload_n 2, 1) := by decide +kernel
theorem dX13_readSort_114 : decode cX13_readSort 114 = .ok (.iconst 1, 1) := by decide +kernel
theorem dX13_readSort_115 : decode cX13_readSort 115 = .ok (.iastore, 1) := by decide +kernel
theorem dX13_readSort_116 : decode cX13_readSort 116 = .ok (.aload_n 0, 1) := by decide +kernel
theorem dX13_readSort_117 : decode cX13_readSort 117 = .ok (.invokevirtual 201, 3) := by decide +kernel
theorem dX13_readSort_120 : decode cX13_readSort 120 = .ok (.goto (-66), 3) := by decide +kernel
theorem dX13_readSort_123 : decode cX13_readSort 123 = .ok (.aload_n 0, 1) := by decide +kernel
theorem dX13_readSort_124 : decode cX13_readSort 124 = .ok (.getfield 37, 3) := by decide +kernel
theorem dX13_readSort_127 : decode cX13_readSort 127 = .ok (.iconst 0, 1) := by decide +kernel
theorem dX13_readSort_128 : decode cX13_readSort 128 = .ok (.dup2, 1) := by decide +kernel
theorem dX13_readSort_129 : decode cX13_readSort 129 = .ok (.iaload, 1) := by decide +kernel
theorem dX13_readSort_130 : decode cX13_readSort 130 = .ok (.iconst 1, 1) := by decide +kernel
theorem dX13_readSort_131 : decode cX13_readSort 131 = .ok (.iadd, 1) := by decide +kernel
theorem dX13_readSort_132 : decode cX13_readSort 132 = .ok (.iastore, 1) := by decide +kernel
theorem dX13_readSort_133 : decode cX13_readSort 133 = .ok (.iconst 1, 1) := by decide +kernel
theorem dX13_readSort_134 : decode cX13_readSort 134 = .ok (.ireturn, 1) := by decide +kernel
theorem dX13_readFollow_0 : decode cX13_readFollow 0 = .ok (.aload_n 0, 1) := by decide +kernel
theorem dX13_readFollow_1 : decode cX13_readFollow 1 = .ok (.invokevirtual 201, 3) := by decide +kernel
theorem dX13_readFollow_4 : decode cX13_readFollow 4 = .ok (.aload_n 0, 1) := by decide +kernel
theorem dX13_readFollow_5 : decode cX13_readFollow 5 = .ok (.bipush 16, 2) := by decide +kernel
theorem dX13_readFollow_7 : decode cX13_readFollow 7 = .ok (.aload_n 0, 1) := by decide +kernel
theorem dX13_readFollow_8 : decode cX13_readFollow 8 = .ok (.getfield 37, 3) := by decide +kernel
theorem dX13_readFollow_11 : decode cX13_readFollow 11 = .ok (.iconst 0, 1) := by decide +kernel
theorem dX13_readFollow_12 : decode cX13_readFollow 12 = .ok (.iaload, 1) := by decide +kernel
theorem dX13_readFollow_13 : decode cX13_readFollow 13 = .ok (.invokevirtual 244, 3) := by decide +kernel
theorem dX13_readFollow_16 : decode cX13_readFollow 16 = .ok (.ifCond .ne 5, 3) := by decide +kernel
theorem dX13_readFollow_19 : decode cX13_readFollow 19 = .ok (.iconst 0, 1) := by decide +kernel
theorem dX13_readFollow_20 : decode cX13_readFollow 20 = .ok (.ireturn, 1) := by decide +kernel
theorem dX13_readFollow_21 : decode cX13_readFollow 21 = .ok (.aload_n 0, 1) := by decide +kernel
theorem dX13_readFollow_22 : decode cX13_readFollow 22 = .ok (.getfield 208, 3) := by decide +kernel
theorem dX13_readFollow_25 : decode cX13_readFollow 25 = .ok (.istore_n 1, 1) := by decide +kernel
theorem dX13_readFollow_26 : decode cX13_readFollow 26 = .ok (.aload_n 0, 1) := by decide +kernel
theorem dX13_readFollow_27 : decode cX13_readFollow 27 = .ok (.invokevirtual 211, 3) := by decide +kernel
theorem dX13_readFollow_30 : decode cX13_readFollow 30 = .ok (.ifCond .ne 9, 3) := by decide +kernel
theorem dX13_readFollow_33 : decode cX13_readFollow 33 = .ok (.aload_n 0, 1) := by decide +kernel
theorem dX13_readFollow_34 : decode cX13_readFollow 34 = .ok (.iconst 1, 1) := by decide +kernel
theorem dX13_readFollow_35 : decode cX13_readFollow 35 = .ok (.invokevirtual 198, 3) := by decide +kernel
theorem dX13_readFollow_38 : decode cX13_readFollow 38 = .ok (.ireturn, 1) := by decide +kernel
theorem dX13_readFollow_39 : decode cX13_readFollow 39 = .ok (.aload_n 0, 1) := by decide +kernel
theorem dX13_readFollow_40 : decode cX13_readFollow 40 = .ok (.bipush 16, 2) := by decide +kernel
theorem dX13_readFollow_42 : decode cX13_readFollow 42 = .ok (.aload_n 0, 1) := by decide +kernel
theorem dX13_readFollow_43 : decode cX13_readFollow 43 = .ok (.getfield 37, 3) := by decide +kernel
theorem dX13_readFollow_46 : decode cX13_readFollow 46 = .ok (.iconst 0, 1) := by decide +kernel
theorem dX13_readFollow_47 : decode cX13_readFollow 47 = .ok (.iaload, 1) := by decide +kernel
theorem dX13_readFollow_48 : decode cX13_readFollow 48 = .ok (.invokevirtual 215, 3) := by decide +kernel
theorem dX13_readFollow_51 : decode cX13_readFollow 51 = .ok (.istore_n 2, 1) := by decide +kernel
theorem dX13_readFollow_52 : decode cX13_readFollow 52 = .ok (.iload_n 2, 1) := by decide +kernel
theorem dX13_readFollow_53 : decode cX13_readFollow 53 = .ok (.ifCond .lt 20, 3) := by decide +kernel
theorem dX13_readFollow_56 : decode cX13_readFollow 56 = .ok (.aload_n 0, 1) := by decide +kernel
theorem dX13_readFollow_57 : decode cX13_readFollow 57 = .ok (.getfield 37, 3) := by decide +kernel
theorem dX13_readFollow_60 : decode cX13_readFollow 60 = .ok (.bipush 15, 2) := by decide +kernel
theorem dX13_readFollow_62 : decode cX13_readFollow 62 = .ok (.iconst 5, 1) := by decide +kernel
theorem dX13_readFollow_63 : decode cX13_readFollow 63 = .ok (.iload_n 1, 1) := by decide +kernel
theorem dX13_readFollow_64 : decode cX13_readFollow 64 = .ok (.imul, 1) := by decide +kernel
theorem dX13_readFollow_65 : decode cX13_readFollow 65 = .ok (.iadd, 1) := by decide +kernel
theorem dX13_readFollow_66 : decode cX13_readFollow 66 = .ok (.iload_n 2, 1) := by decide +kernel
theorem dX13_readFollow_67 : decode cX13_readFollow 67 = .ok (.iadd, 1) := by decide +kernel
theorem dX13_readFollow_68 : decode cX13_readFollow 68 = .ok (.iaload, 1) := by decide +kernel
theorem dX13_readFollow_69 : decode cX13_readFollow 69 = .ok (.iconst 1, 1) := by decide +kernel
theorem dX13_readFollow_70 : decode cX13_readFollow 70 = .ok (.if_icmp .ne 9, 3) := by decide +kernel
theorem dX13_readFollow_73 : decode cX13_readFollow 73 = .ok (.aload_n 0, 1) := by decide +kernel
theorem dX13_readFollow_74 : decode cX13_readFollow 74 = .ok (.iconst 3, 1) := by decide +kernel
theorem dX13_readFollow_75 : decode cX13_readFollow 75 = .ok (.invokevirtual 198, 3) := by decide +kernel
theorem dX13_readFollow_78 : decode cX13_readFollow 78 = .ok (.ireturn, 1) := by decide +kernel
theorem dX13_readFollow_79 : decode cX13_readFollow 79 = .ok (.aload_n 0, 1) := by decide +kernel
theorem dX13_readFollow_80 : decode cX13_readFollow 80 = .ok (.getfield 37, 3) := by decide +kernel
theorem dX13_readFollow_83 : decode cX13_readFollow 83 = .ok (.bipush 15, 2) := by decide +kernel
theorem dX13_readFollow_85 : decode cX13_readFollow 85 = .ok (.iconst 5, 1) := by decide +kernel
theorem dX13_readFollow_86 : decode cX13_readFollow 86 = .ok (.iload_n 1, 1) := by decide +kernel
theorem dX13_readFollow_87 : decode cX13_readFollow 87 = .ok (.imul, 1) := by decide +kernel
theorem dX13_readFollow_88 : decode cX13_readFollow 88 = .ok (.iadd, 1) := by decide +kernel
theorem dX13_readFollow_89 : decode cX13_readFollow 89 = .ok (.iload_n 2, 1) := by decide +kernel
theorem dX13_readFollow_90 : decode cX13_readFollow 90 = .ok (.iadd, 1) := by decide +kernel
theorem dX13_readFollow_91 : decode cX13_readFollow 91 = .ok (.iconst 1, 1) := by decide +kernel
theorem dX13_readFollow_92 : decode cX13_readFollow 92 = .ok (.iastore, 1) := by decide +kernel
theorem dX13_readFollow_93 : decode cX13_readFollow 93 = .ok (.aload_n 0, 1) := by decide +kernel
theorem dX13_readFollow_94 : decode cX13_readFollow 94 = .ok (.invokevirtual 201, 3) := by decide +kernel
theorem dX13_readFollow_97 : decode cX13_readFollow 97 = .ok (.iconst 1, 1) := by decide +kernel
theorem dX13_readFollow_98 : decode cX13_readFollow 98 = .ok (.ireturn, 1) := by decide +kernel
theorem dX13_readWord_0 : decode cX13_readWord 0 = .ok (.aload_n 0, 1) := by decide +kernel
theorem dX13_readWord_1 : decode cX13_readWord 1 = .ok (.getfield 37, 3) := by decide +kernel
theorem dX13_readWord_4 : decode cX13_readWord 4 = .ok (.iconst 2, 1) := by decide +kernel
theorem dX13_readWord_5 : decode cX13_readWord 5 = .ok (.iaload, 1) := by decide +kernel
theorem dX13_readWord_6 : decode cX13_readWord 6 = .ok (.istore_n 1, 1) := by decide +kernel
theorem dX13_readWord_7 : decode cX13_readWord 7 = .ok (.iload_n 1, 1) := by decide +kernel
theorem dX13_readWord_8 : decode cX13_readWord 8 = .ok (.bipush 8, 2) := by decide +kernel
theorem dX13_readWord_10 : decode cX13_readWord 10 = .ok (.if_icmp .ne 9, 3) := by decide +kernel
theorem dX13_readWord_13 : decode cX13_readWord 13 = .ok (.aload_n 0, 1) := by decide +kernel
theorem dX13_readWord_14 : decode cX13_readWord 14 = .ok (.iconst 4, 1) := by decide +kernel
theorem dX13_readWord_15 : decode cX13_readWord 15 = .ok (.invokevirtual 198, 3) := by decide +kernel
theorem dX13_readWord_18 : decode cX13_readWord 18 = .ok (.ireturn, 1) := by decide +kernel
theorem dX13_readWord_19 : decode cX13_readWord 19 = .ok (.aload_n 0, 1) := by decide +kernel
theorem dX13_readWord_20 : decode cX13_readWord 20 = .ok (.invokevirtual 201, 3) := by decide +kernel
theorem dX13_readWord_23 : decode cX13_readWord 23 = .ok (.aload_n 0, 1) := by decide +kernel
theorem dX13_readWord_24 : decode cX13_readWord 24 = .ok (.bipush 24, 2) := by decide +kernel
theorem dX13_readWord_26 : decode cX13_readWord 26 = .ok (.iload_n 1, 1) := by decide +kernel
theorem dX13_readWord_27 : decode cX13_readWord 27 = .ok (.iadd, 1) := by decide +kernel
theorem dX13_readWord_28 : decode cX13_readWord 28 = .ok (.invokevirtual 226, 3) := by decide +kernel
theorem dX13_readWord_31 : decode cX13_readWord 31 = .ok (.ifCond .ne 5, 3) := by decide +kernel
theorem dX13_readWord_34 : decode cX13_readWord 34 = .ok (.iconst 0, 1) := by decide +kernel
theorem dX13_readWord_35 : decode cX13_readWord 35 = .ok (.ireturn, 1) := by decide +kernel
theorem dX13_readWord_36 : decode cX13_readWord 36 = .ok (.aload_n 0, 1) := by decide +kernel
theorem dX13_readWord_37 : decode cX13_readWord 37 = .ok (.getfield 37, 3) := by decide +kernel
theorem dX13_readWord_40 : decode cX13_readWord 40 = .ok (.bipush 40, 2) := by decide +kernel
theorem dX13_readWord_42 : decode cX13_readWord 42 = .ok (.iload_n 1, 1) := by decide +kernel
theorem dX13_readWord_43 : decode cX13_readWord 43 = .ok (.iadd, 1) := by decide +kernel
theorem dX13_readWord_44 : decode cX13_readWord 44 = .ok (.iconst 1, 1) := by decide +kernel
theorem dX13_readWord_45 : decode cX13_readWord 45 = .ok (.iastore, 1) := by decide +kernel
theorem dX13_readWord_46 : decode cX13_readWord 46 = .ok (.aload_n 0, 1) := by decide +kernel
theorem dX13_readWord_47 : decode cX13_readWord 47 = .ok (.getfield 37, 3) := by decide +kernel
theorem dX13_readWord_50 : decode cX13_readWord 50 = .ok (.bipush 48, 2) := by decide +kernel
theorem dX13_readWord_52 : decode cX13_readWord 52 = .ok (.iload_n 1, 1) := by decide +kernel
theorem dX13_readWord_53 : decode cX13_readWord 53 = .ok (.iadd, 1) := by decide +kernel
theorem dX13_readWord_54 : decode cX13_readWord 54 = .ok (.iconst 1, 1) := by decide +kernel
theorem dX13_readWord_55 : decode cX13_readWord 55 = .ok (.iastore, 1) := by decide +kernel
theorem dX13_readWord_56 : decode cX13_readWord 56 = .ok (.aload_n 0, 1) := by decide +kernel
theorem dX13_readWord_57 : decode cX13_readWord 57 = .ok (.getfield 37, 3) := by decide +kernel
theorem dX13_readWord_60 : decode cX13_readWord 60 = .ok (.bipush 56, 2) := by decide +kernel
theorem dX13_readWord_62 : decode cX13_readWord 62 = .ok (.iload_n 1, 1) := by decide +kernel
theorem dX13_readWord_63 : decode cX13_readWord 63 = .ok (.iadd, 1) := by decide +kernel
theorem dX13_readWord_64 : decode cX13_readWord 64 = .ok (.iconst 1, 1) := by decide +kernel
theorem dX13_readWord_65 : decode cX13_readWord 65 = .ok (.iastore, 1) := by decide +kernel
theorem dX13_readWord_66 : decode cX13_readWord 66 = .ok (.aload_n 0, 1) := by decide +kernel
theorem dX13_readWord_67 : decode cX13_readWord 67 = .ok (.getfield 37, 3) := by decide +kernel
theorem dX13_readWord_70 : decode cX13_readWord 70 = .ok (.bipush 64, 2) := by decide +kernel
theorem dX13_readWord_72 : decode cX13_readWord 72 = .ok (.iload_n 1, 1) := by decide +kernel
theorem dX13_readWord_73 : decode cX13_readWord 73 = .ok (.iadd, 1) := by decide +kernel
theorem dX13_readWord_74 : decode cX13_readWord 74 = .ok (.iconst 0, 1) := by decide +kernel
theorem dX13_readWord_75 : decode cX13_readWord 75 = .ok (.iastore, 1) := by decide +kernel
theorem dX13_readWord_76 : decode cX13_readWord 76 = .ok (.aload_n 0, 1) := by decide +kernel
theorem dX13_readWord_77 : decode cX13_readWord 77 = .ok (.ldc2_w 139, 3) := by decide +kernel
theorem dX13_readWord_80 : decode cX13_readWord 80 = .ok (.invokevirtual 219, 3) := by decide +kernel
theorem dX13_readWord_83 : decode cX13_readWord 83 = .ok (.ifCond .eq 32, 3) := by decide +kernel
theorem dX13_readWord_86 : decode cX13_readWord 86 = .ok (.aload_n 0, 1) := by decide +kernel
theorem dX13_readWord_87 : decode cX13_readWord 87 = .ok (.invokevirtual 201, 3) := by decide +kernel
theorem dX13_readWord_90 : decode cX13_readWord 90 = .ok (.aload_n 0, 1) := by decide +kernel
theorem dX13_readWord_91 : decode cX13_readWord 91 = .ok (.iconst 0, 1) := by decide +kernel
theorem dX13_readWord_92 : decode cX13_readWord 92 = .ok (.bipush 9, 2) := by decide +kernel
theorem dX13_readWord_94 : decode cX13_readWord 94 = .ok (.invokevirtual 248, 3) := by decide +kernel
theorem dX13_readWord_97 : decode cX13_readWord 97 = .ok (.ifCond .ne 5, 3) := by decide +kernel
theorem dX13_readWord_100 : decode cX13_readWord 100 = .ok (.iconst 0, 1) := by decide +kernel
theorem dX13_readWord_101 : decode cX13_readWord 101 = .ok (.ireturn, 1) := by decide +kernel
theorem dX13_readWord_102 : decode cX13_readWord 102 = .ok (.aload_n 0, 1) := by decide +kernel
theorem dX13_readWord_103 : decode cX13_readWord 103 = .ok (.getfield 37, 3) := by decide +kernel
theorem dX13_readWord_106 : decode cX13_readWord 106 = .ok (.bipush 40, 2) := by decide +kernel
theorem dX13_readWord_108 : decode cX13_readWord 108 = .ok (.iload_n 1, 1) := by decide +kernel
theorem dX13_readWord_109 : decode cX13_readWord 109 = .ok (.iadd, 1) := by decide +kernel
theorem dX13_readWord_110 : decode cX13_readWord 110 = .ok (.aload_n 0, 1) := by decide +kernel
theorem dX13_readWord_111 : decode cX13_readWord 111 = .ok (.getfield 208, 3) := by decide +kernel
theorem dX13_readWord_114 : decode cX13_readWord 114 = .ok (.iastore, 1) := by decide +kernel
theorem dX13_readWord_115 : decode cX13_readWord 115 = .ok (.aload_n 0, 1) := by decide +kernel
theorem dX13_readWord_116 : decode cX13_readWord 116 = .ok (.ldc2_w 141, 3) := by decide +kernel
theorem dX13_readWord_119 : decode cX13_readWord 119 = .ok (.invokevirtual 219, 3) := by decide +kernel
theorem dX13_readWord_122 : decode cX13_readWord 122 = .ok (.ifCond .eq 32, 3) := by decide +kernel
theorem dX13_readWord_125 : decode cX13_readWord 125 = .ok (.aload_n 0, 1) := by decide +kernel
theorem dX13_readWord_126 : decode cX13_readWord 126 = .ok (.invokevirtual 201, 3) := by decide +kernel
theorem dX13_readWord_129 : decode cX13_readWord 129 = .ok (.aload_n 0, 1) := by decide +kernel
theorem dX13_readWord_130 : decode cX13_readWord 130 = .ok (.iconst 1, 1) := by decide +kernel
theorem dX13_readWord_131 : decode cX13_readWord 131 = .ok (.bipush 60, 2) := by decide +kernel
theorem dX13_readWord_133 : decode cX13_readWord 133 = .ok (.invokevirtual 248, 3) := by decide +kernel
theorem dX13_readWord_136 : decode cX13_readWord 136 = .ok (.ifCond .ne 5, 3) := by decide +kernel
theorem dX13_readWord_139 : decode cX13_readWord 139 = .ok (.iconst 0, 1) := by decide +kernel
theorem dX13_readWord_140 : decode cX13_readWord 140 = .ok (.ireturn, 1) := by decide +kernel
theorem dX13_readWord_141 : decode cX13_readWord 141 = .ok (.aload_n 0, 1) := by decide +kernel
theorem dX13_readWord_142 : decode cX13_readWord 142 = .ok (.getfield 37, 3) := by decide +kernel
theorem dX13_readWord_145 : decode cX13_readWord 145 = .ok (.bipush 48, 2) := by decide +kernel
theorem dX13_readWord_147 : decode cX13_readWord 147 = .ok (.iload_n 1, 1) := by decide +kernel
theorem dX13_readWord_148 : decode cX13_readWord 148 = .ok (.iadd, 1) := by decide +kernel
theorem dX13_readWord_149 : decode cX13_readWord 149 = .ok (.aload_n 0, 1) := by decide +kernel
theorem dX13_readWord_150 : decode cX13_readWord 150 = .ok (.getfield 208, 3) := by decide +kernel
theorem dX13_readWord_153 : decode cX13_readWord 153 = .ok (.iastore, 1) := by decide +kernel
theorem dX13_readWord_154 : decode cX13_readWord 154 = .ok (.aload_n 0, 1) := by decide +kernel
theorem dX13_readWord_155 : decode cX13_readWord 155 = .ok (.ldc2_w 143, 3) := by decide +kernel
theorem dX13_readWord_158 : decode cX13_readWord 158 = .ok (.invokevirtual 219, 3) := by decide +kernel
theorem dX13_readWord_161 : decode cX13_readWord 161 = .ok (.ifCond .eq 32, 3) := by decide +kernel
theorem dX13_readWord_164 : decode cX13_readWord 164 = .ok (.aload_n 0, 1) := by decide +kernel
theorem dX13_readWord_165 : decode cX13_readWord 165 = .ok (.invokevirtual 201, 3) := by decide +kernel
theorem dX13_readWord_168 : decode cX13_readWord 168 = .ok (.aload_n 0, 1) := by decide +kernel
theorem dX13_readWord_169 : decode cX13_readWord 169 = .ok (.iconst 0, 1) := by decide +kernel
theorem dX13_readWord_170 : decode cX13_readWord 170 = .ok (.bipush 99, 2) := by decide +kernel
theorem dX13_readWord_172 : decode cX13_readWord 172 = .ok (.invokevirtual 248, 3) := by decide +kernel
theorem dX13_readWord_175 : decode cX13_readWord 175 = .ok (.ifCond .ne 5, 3) := by decide +kernel
theorem dX13_readWord_178 : decode cX13_readWord 178 = .ok (.iconst 0, 1) := by decide +kernel
theorem dX13_readWord_179 : decode cX13_readWord 179 = .ok (.ireturn, 1) := by decide +kernel
theorem dX13_readWord_180 : decode cX13_readWord 180 = .ok (.aload_n 0, 1) := by decide +kernel
theorem dX13_readWord_181 : decode cX13_readWord 181 = .ok (.getfield 37, 3) := by decide +kernel
theorem dX13_readWord_184 : decode cX13_readWord 184 = .ok (.bipush 56, 2) := by decide +kernel
theorem dX13_readWord_186 : decode cX13_readWord 186 = .ok (.iload_n 1, 1) := by decide +kernel
theorem dX13_readWord_187 : decode cX13_readWord 187 = .ok (.iadd, 1) := by decide +kernel
theorem dX13_readWord_188 : decode cX13_readWord 188 = .ok (.aload_n 0, 1) := by decide +kernel
theorem dX13_readWord_189 : decode cX13_readWord 189 = .ok (.getfield 208, 3) := by decide +kernel
theorem dX13_readWord_192 : decode cX13_readWord 192 = .ok (.iastore, 1) := by decide +kernel
theorem dX13_readWord_193 : decode cX13_readWord 193 = .ok (.aload_n 0, 1) := by decide +kernel
theorem dX13_readWord_194 : decode cX13_readWord 194 = .ok (.ldc2_w 145, 3) := by decide +kernel
theorem dX13_readWord_197 : decode cX13_readWord 197 = .ok (.invokevirtual 219, 3) := by decide +kernel
theorem dX13_readWord_200 : decode cX13_readWord 200 = .ok (.ifCond .eq 17, 3) := by decide +kernel
theorem dX13_readWord_203 : decode cX13_readWord 203 = .ok (.aload_n 0, 1) := by decide +kernel
theorem dX13_readWord_204 : decode cX13_readWord 204 = .ok (.invokevirtual 201, 3) := by decide +kernel
theorem dX13_readWord_207 : decode cX13_readWord 207 = .ok (.aload_n 0, 1) := by decide +kernel
theorem dX13_readWord_208 : decode cX13_readWord 208 = .ok (.getfield 37, 3) := by decide +kernel
theorem dX13_readWord_211 : decode cX13_readWord 211 = .ok (.bipush 64, 2) := by decide +kernel
theorem dX13_readWord_213 : decode cX13_readWord 213 = .ok (.iload_n 1, 1) := by decide +kernel
theorem dX13_readWord_214 : decode cX13_readWord 214 = .ok (.iadd, 1) := by decide +kernel
theorem dX13_readWord_215 : decode cX13_readWord 215 = .ok (.iconst 1, 1) := by decide +kernel
theorem dX13_readWord_216 : decode cX13_readWord 216 = .ok (.iastore, 1) := by decide +kernel
theorem dX13_readWord_217 : decode cX13_readWord 217 = .ok (.aload_n 0, 1) := by decide +kernel
theorem dX13_readWord_218 : decode cX13_readWord 218 = .ok (.getfield 37, 3) := by decide +kernel
theorem dX13_readWord_221 : decode cX13_readWord 221 = .ok (.iconst 2, 1) := by decide +kernel
theorem dX13_readWord_222 : decode cX13_readWord 222 = .ok (.dup2, 1) := by decide +kernel
theorem dX13_readWord_223 : decode cX13_readWord 223 = .ok (.iaload, 1) := by decide +kernel
theorem dX13_readWord_224 : decode cX13_readWord 224 = .ok (.iconst 1, 1) := by decide +kernel
theorem dX13_readWord_225 : decode cX13_readWord 225 = .ok (.iadd, 1) := by decide +kernel
theorem dX13_readWord_226 : decode cX13_readWord 226 = .ok (.iastore, 1) := by decide +kernel
theorem dX13_readWord_227 : decode cX13_readWord 227 = .ok (.iconst 1, 1) := by decide +kernel
theorem dX13_readWord_228 : decode cX13_readWord 228 = .ok (.ireturn, 1) := by decide +kernel
theorem dX13_readReads_0 : decode cX13_readReads 0 = .ok (.aload_n 0, 1) := by decide +kernel
theorem dX13_readReads_1 : decode cX13_readReads 1 = .ok (.invokevirtual 201, 3) := by decide +kernel
theorem dX13_readReads_4 : decode cX13_readReads 4 = .ok (.aload_n 0, 1) := by decide +kernel
theorem dX13_readReads_5 : decode cX13_readReads 5 = .ok (.bipush 24, 2) := by decide +kernel
theorem dX13_readReads_7 : decode cX13_readReads 7 = .ok (.aload_n 0, 1) := by decide +kernel
theorem dX13_readReads_8 : decode cX13_readReads 8 = .ok (.getfield 37, 3) := by decide +kernel
theorem dX13_readReads_11 : decode cX13_readReads 11 = .ok (.iconst 2, 1) := by decide +kernel
theorem dX13_readReads_12 : decode cX13_readReads 12 = .ok (.iaload, 1) := by decide +kernel
theorem dX13_readReads_13 : decode cX13_readReads 13 = .ok (.invokevirtual 244, 3) := by decide +kernel
theorem dX13_readReads_16 : decode cX13_readReads 16 = .ok (.ifCond .ne 5, 3) := by decide +kernel
theorem dX13_readReads_19 : decode cX13_readReads 19 = .ok (.iconst 0, 1) := by decide +kernel
theorem dX13_readReads_20 : decode cX13_readReads 20 = .ok (.ireturn, 1) := by decide +kernel
theorem dX13_readReads_21 : decode cX13_readReads 21 = .ok (.aload_n 0, 1) := by decide +kernel
theorem dX13_readReads_22 : decode cX13_readReads 22 = .ok (.getfield 208, 3) := by decide +kernel
theorem dX13_readReads_25 : decode cX13_readReads 25 = .ok (.istore_n 1, 1) := by decide +kernel
theorem dX13_readReads_26 : decode cX13_readReads 26 = .ok (.aload_n 0, 1) := by decide +kernel
theorem dX13_readReads_27 : decode cX13_readReads 27 = .ok (.invokevirtual 211, 3) := by decide +kernel
theorem dX13_readReads_30 : decode cX13_readReads 30 = .ok (.ifCond .ne 9, 3) := by decide +kernel
theorem dX13_readReads_33 : decode cX13_readReads 33 = .ok (.aload_n 0, 1) := by decide +kernel
theorem dX13_readReads_34 : decode cX13_readReads 34 = .ok (.iconst 1, 1) := by decide +kernel
theorem dX13_readReads_35 : decode cX13_readReads 35 = .ok (.invokevirtual 198, 3) := by decide +kernel
theorem dX13_readReads_38 : decode cX13_readReads 38 = .ok (.ireturn, 1) := by decide +kernel
theorem dX13_readReads_39 : decode cX13_readReads 39 = .ok (.aload_n 0, 1) := by decide +kernel
theorem dX13_readReads_40 : decode cX13_readReads 40 = .ok (.bipush 16, 2) := by decide +kernel
theorem dX13_readReads_42 : decode cX13_readReads 42 = .ok (.aload_n 0, 1) := by decide +kernel
theorem dX13_readReads_43 : decode cX13_readReads 43 = .ok (.getfield 37, 3) := by decide +kernel
theorem dX13_readReads_46 : decode cX13_readReads 46 = .ok (.iconst 0, 1) := by decide +kernel
theorem dX13_readReads_47 : decode cX13_readReads 47 = .ok (.iaload, 1) := by decide +kernel
theorem dX13_readReads_48 : decode cX13_readReads 48 = .ok (.invokevirtual 215, 3) := by decide +kernel
theorem dX13_readReads_51 : decode cX13_readReads 51 = .ok (.istore_n 2, 1) := by decide +kernel
theorem dX13_readReads_52 : decode cX13_readReads 52 = .ok (.iload_n 2, 1) := by decide +kernel
theorem dX13_readReads_53 : decode cX13_readReads 53 = .ok (.ifCond .lt 20, 3) := by decide +kernel
theorem dX13_readReads_56 : decode cX13_readReads 56 = .ok (.aload_n 0, 1) := by decide +kernel
theorem dX13_readReads_57 : decode cX13_readReads 57 = .ok (.getfield 37, 3) := by decide +kernel
theorem dX13_readReads_60 : decode cX13_readReads 60 = .ok (.bipush 72, 2) := by decide +kernel
theorem dX13_readReads_62 : decode cX13_readReads 62 = .ok (.iconst 5, 1) := by decide +kernel
theorem dX13_readReads_63 : decode cX13_readReads 63 = .ok (.iload_n 1, 1) := by decide +kernel
theorem dX13_readReads_64 : decode cX13_readReads 64 = .ok (.imul, 1) := by decide +kernel
theorem dX13_readReads_65 : decode cX13_readReads 65 = .ok (.iadd, 1) := by decide +kernel
theorem dX13_readReads_66 : decode cX13_readReads 66 = .ok (.iload_n 2, 1) := by decide +kernel
theorem dX13_readReads_67 : decode cX13_readReads 67 = .ok (.iadd, 1) := by decide +kernel
theorem dX13_readReads_68 : decode cX13_readReads 68 = .ok (.iaload, 1) := by decide +kernel
theorem dX13_readReads_69 : decode cX13_readReads 69 = .ok (.iconst 1, 1) := by decide +kernel
theorem dX13_readReads_70 : decode cX13_readReads 70 = .ok (.if_icmp .ne 9, 3) := by decide +kernel
theorem dX13_readReads_73 : decode cX13_readReads 73 = .ok (.aload_n 0, 1) := by decide +kernel
theorem dX13_readReads_74 : decode cX13_readReads 74 = .ok (.iconst 3, 1) := by decide +kernel
theorem dX13_readReads_75 : decode cX13_readReads 75 = .ok (.invokevirtual 198, 3) := by decide +kernel
theorem dX13_readReads_78 : decode cX13_readReads 78 = .ok (.ireturn, 1) := by decide +kernel
theorem dX13_readReads_79 : decode cX13_readReads 79 = .ok (.aload_n 0, 1) := by decide +kernel
theorem dX13_readReads_80 : decode cX13_readReads 80 = .ok (.invokevirtual 201, 3) := by decide +kernel
theorem dX13_readReads_83 : decode cX13_readReads 83 = .ok (.aload_n 0, 1) := by decide +kernel
theorem dX13_readReads_84 : decode cX13_readReads 84 = .ok (.getfield 37, 3) := by decide +kernel
theorem dX13_readReads_87 : decode cX13_readReads 87 = .ok (.bipush 72, 2) := by decide +kernel
theorem dX13_readReads_89 : decode cX13_readReads 89 = .ok (.iconst 5, 1) := by decide +kernel
theorem dX13_readReads_90 : decode cX13_readReads 90 = .ok (.iload_n 1, 1) := by decide +kernel
theorem dX13_readReads_91 : decode cX13_readReads 91 = .ok (.imul, 1) := by decide +kernel
theorem dX13_readReads_92 : decode cX13_readReads 92 = .ok (.iadd, 1) := by decide +kernel
theorem dX13_readReads_93 : decode cX13_readReads 93 = .ok (.iload_n 2, 1) := by decide +kernel
theorem dX13_readReads_94 : decode cX13_readReads 94 = .ok (.iadd, 1) := by decide +kernel
theorem dX13_readReads_95 : decode cX13_readReads 95 = .ok (.iconst 1, 1) := by decide +kernel
theorem dX13_readReads_96 : decode cX13_readReads 96 = .ok (.iastore, 1) := by decide +kernel
theorem dX13_readReads_97 : decode cX13_readReads 97 = .ok (.bipush 112, 2) := by decide +kernel
theorem dX13_readReads_99 : decode cX13_readReads 99 = .ok (.bipush 8, 2) := by decide +kernel
theorem dX13_readReads_101 : decode cX13_readReads 101 = .ok (.iconst 5, 1) := by decide +kernel
theorem dX13_readReads_102 : decode cX13_readReads 102 = .ok (.iload_n 1, 1) := by decide +kernel
theorem dX13_readReads_103 : decode cX13_readReads 103 = .ok (.imul, 1) := by decide +kernel
theorem dX13_readReads_104 : decode cX13_readReads 104 = .ok (.iload_n 2, 1) := by decide +kernel
theorem dX13_readReads_105 : decode cX13_readReads 105 = .ok (.iadd, 1) := by decide +kernel
theorem dX13_readReads_106 : decode cX13_readReads 106 = .ok (.imul, 1) := by decide +kernel
theorem dX13_readReads_107 : decode cX13_readReads 107 = .ok (.iadd, 1) := by decide +kernel
theorem dX13_readReads_108 : decode cX13_readReads 108 = .ok (.istore_n 3, 1) := by decide +kernel
theorem dX13_readReads_109 : decode cX13_readReads 109 = .ok (.iconst 0, 1) := by decide +kernel
theorem dX13_readReads_110 : decode cX13_readReads 110 = .ok (.istore 4, 2) := by decide +kernel
theorem dX13_readReads_112 : decode cX13_readReads 112 = .ok (.iload 4, 2) := by decide +kernel
theorem dX13_readReads_114 : decode cX13_readReads 114 = .ok (.bipush 8, 2) := by decide +kernel
theorem dX13_readReads_116 : decode cX13_readReads 116 = .ok (.if_icmp .ge 20, 3) := by decide +kernel
theorem dX13_readReads_119 : decode cX13_readReads 119 = .ok (.aload_n 0, 1) := by decide +kernel
theorem dX13_readReads_120 : decode cX13_readReads 120 = .ok (.getfield 37, 3) := by decide +kernel
theorem dX13_readReads_123 : decode cX13_readReads 123 = .ok (.iload_n 3, 1) := by decide +kernel
theorem dX13_readReads_124 : decode cX13_readReads 124 = .ok (.iload 4, 2) := by decide +kernel
theorem dX13_readReads_126 : decode cX13_readReads 126 = .ok (.iadd, 1) := by decide +kernel
theorem dX13_readReads_127 : decode cX13_readReads 127 = .ok (.iload 4, 2) := by decide +kernel
theorem dX13_readReads_129 : decode cX13_readReads 129 = .ok (.iastore, 1) := by decide +kernel
theorem dX13_readReads_130 : decode cX13_readReads 130 = .ok (.iinc 4 1, 3) := by decide +kernel
theorem dX13_readReads_133 : decode cX13_readReads 133 = .ok (.goto (-21), 3) := by decide +kernel
theorem dX13_readReads_136 : decode cX13_readReads 136 = .ok (.iconst 0, 1) := by decide +kernel
theorem dX13_readReads_137 : decode cX13_readReads 137 = .ok (.istore 4, 2) := by decide +kernel
theorem dX13_readReads_139 : decode cX13_readReads 139 = .ok (.aload_n 0, 1) := by decide +kernel
theorem dX13_readReads_140 : decode cX13_readReads 140 = .ok (.ldc2_w 149, 3) := by decide +kernel
theorem dX13_readReads_143 : decode cX13_readReads 143 = .ok (.invokevirtual 219, 3) := by decide +kernel
theorem dX13_readReads_146 : decode cX13_readReads 146 = .ok (.ifCond .ne 23, 3) := by decide +kernel
theorem dX13_readReads_149 : decode cX13_readReads 149 = .ok (.aload_n 0, 1) := by decide +kernel
theorem dX13_readReads_150 : decode cX13_readReads 150 = .ok (.ldc2_w 151, 3) := by decide +kernel
theorem dX13_readReads_153 : decode cX13_readReads 153 = .ok (.invokevirtual 219, 3) := by decide +kernel
theorem dX13_readReads_156 : decode cX13_readReads 156 = .ok (.ifCond .ne 13, 3) := by decide +kernel
theorem dX13_readReads_159 : decode cX13_readReads 159 = .ok (.aload_n 0, 1) := by decide +kernel
theorem dX13_readReads_160 : decode cX13_readReads 160 = .ok (.ldc2_w 153, 3) := by decide +kernel
theorem dX13_readReads_163 : decode cX13_readReads 163 = .ok (.invokevirtual 219, 3) := by decide +kernel
theorem dX13_readReads_166 : decode cX13_readReads 166 = .ok (.ifCond .eq 162, 3) := by decide +kernel
theorem dX13_readReads_169 : decode cX13_readReads 169 = .ok (.iload 4, 2) := by decide +kernel
theorem dX13_readReads_171 : decode cX13_readReads 171 = .ok (.bipush 6, 2) := by decide +kernel
theorem dX13_readReads_173 : decode cX13_readReads 173 = .ok (.if_icmp .ne 9, 3) := by decide +kernel
theorem dX13_readReads_176 : decode cX13_readReads 176 = .ok (.aload_n 0, 1) := by decide +kernel
theorem dX13_readReads_177 : decode cX13_readReads 177 = .ok (.iconst 4, 1) := by decide +kernel
theorem dX13_readReads_178 : decode cX13_readReads 178 = .ok (.invokevirtual 198, 3) := by decide +kernel
theorem dX13_readReads_181 : decode cX13_readReads 181 = .ok (.ireturn, 1) := by decide +kernel
theorem dX13_readReads_182 : decode cX13_readReads 182 = .ok (.aload_n 0, 1) := by decide +kernel
theorem dX13_readReads_183 : decode cX13_readReads 183 = .ok (.ldc2_w 149, 3) := by decide +kernel
theorem dX13_readReads_186 : decode cX13_readReads 186 = .ok (.invokevirtual 219, 3) := by decide +kernel
theorem dX13_readReads_189 : decode cX13_readReads 189 = .ok (.ifCond .eq 7, 3) := by decide +kernel
theorem dX13_readReads_192 : decode cX13_readReads 192 = .ok (.iconst 0, 1) := by decide +kernel
theorem dX13_readReads_193 : decode cX13_readReads 193 = .ok (.goto 18, 3) := by decide +kernel
theorem dX13_readReads_196 : decode cX13_readReads 196 = .ok (.aload_n 0, 1) := by decide +kernel
theorem dX13_readReads_197 : decode cX13_readReads 197 = .ok (.ldc2_w 151, 3) := by decide +kernel
theorem dX13_readReads_200 : decode cX13_readReads 200 = .ok (.invokevirtual 219, 3) := by decide +kernel
theorem dX13_readReads_203 : decode cX13_readReads 203 = .ok (.ifCond .eq 7, 3) := by decide +kernel
theorem dX13_readReads_206 : decode cX13_readReads 206 = .ok (.iconst 1, 1) := by decide +kernel
theorem dX13_readReads_207 : decode cX13_readReads 207 = .ok (.goto 4, 3) := by decide +kernel
theorem dX13_readReads_210 : decode cX13_readReads 210 = .ok (.iconst 2, 1) := by decide +kernel
theorem dX13_readReads_211 : decode cX13_readReads 211 = .ok (.istore 5, 2) := by decide +kernel
theorem dX13_readReads_213 : decode cX13_readReads 213 = .ok (.aload_n 0, 1) := by decide +kernel
theorem dX13_readReads_214 : decode cX13_readReads 214 = .ok (.invokevirtual 201, 3) := by decide +kernel
theorem dX13_readReads_217 : decode cX13_readReads 217 = .ok (.aload_n 0, 1) := by decide +kernel
theorem dX13_readReads_218 : decode cX13_readReads 218 = .ok (.bipush 21, 2) := by decide +kernel
theorem dX13_readReads_220 : decode cX13_readReads 220 = .ok (.aload_n 0, 1) := by decide +kernel
theorem dX13_readReads_221 : decode cX13_readReads 221 = .ok (.getfield 37, 3) := by decide +kernel
theorem dX13_readReads_224 : decode cX13_readReads 224 = .ok (.iconst 1, 1) := by decide +kernel
theorem dX13_readReads_225 : decode cX13_readReads 225 = .ok (.iaload, 1) := by decide +kernel
theorem dX13_readReads_226 : decode cX13_readReads 226 = .ok (.invokevirtual 244, 3) := by decide +kernel
theorem dX13_readReads_229 : decode cX13_readReads 229 = .ok (.ifCond .ne 5, 3) := by decide +kernel
theorem dX13_readReads_232 : decode cX13_readReads 232 = .ok (.iconst 0, 1) := by decide +kernel
theorem dX13_readReads_233 : decode cX13_readReads 233 = .ok (.ireturn, 1) := by decide +kernel
theorem dX13_readReads_234 : decode cX13_readReads 234 = .ok (.iconst 1, 1) := by decide +kernel
theorem dX13_readReads_235 : decode cX13_readReads 235 = .ok (.aload_n 0, 1) := by decide +kernel
theorem dX13_readReads_236 : decode cX13_readReads 236 = .ok (.getfield 208, 3) := by decide +kernel
theorem dX13_readReads_239 : decode cX13_readReads 239 = .ok (.ishl, 1) := by decide +kernel
theorem dX13_readReads_240 : decode cX13_readReads 240 = .ok (.istore 6, 2) := by decide +kernel
theorem dX13_readReads_242 : decode cX13_readReads 242 = .ok (.iconst 0, 1) := by decide +kernel
theorem dX13_readReads_243 : decode cX13_readReads 243 = .ok (.istore 7, 2) := by decide +kernel
theorem dX13_readReads_245 : decode cX13_readReads 245 = .ok (.iload 7, 2) := by decide +kernel
theorem dX13_readReads_247 : decode cX13_readReads 247 = .ok (.bipush 8, 2) := by decide +kernel
theorem dX13_readReads_249 : decode cX13_readReads 249 = .ok (.if_icmp .ge 73, 3) := by decide +kernel
theorem dX13_readReads_252 : decode cX13_readReads 252 = .ok (.aload_n 0, 1) := by decide +kernel
theorem dX13_readReads_253 : decode cX13_readReads 253 = .ok (.getfield 37, 3) := by decide +kernel
theorem dX13_readReads_256 : decode cX13_readReads 256 = .ok (.iload_n 3, 1) := by decide +kernel
theorem dX13_readReads_257 : decode cX13_readReads 257 = .ok (.iload 7, 2) := by decide +kernel
theorem dX13_readReads_259 : decode cX13_readReads 259 = .ok (.iadd, 1) := by decide +kernel
theorem dX13_readReads_260 : decode cX13_readReads 260 = .ok (.iload 5, 2) := by decide +kernel
theorem dX13_readReads_262 : decode cX13_readReads 262 = .ok (.ifCond .ne 18, 3) := by decide +kernel
theorem dX13_readReads_265 : decode cX13_readReads 265 = .ok (.aload_n 0, 1) := by decide +kernel
theorem dX13_readReads_266 : decode cX13_readReads 266 = .ok (.getfield 37, 3) := by decide +kernel
theorem dX13_readReads_269 : decode cX13_readReads 269 = .ok (.iload_n 3, 1) := by decide +kernel
theorem dX13_readReads_270 : decode cX13_readReads 270 = .ok (.iload 7, 2) := by decide +kernel
theorem dX13_readReads_272 : decode cX13_readReads 272 = .ok (.iadd, 1) := by decide +kernel
theorem dX13_readReads_273 : decode cX13_readReads 273 = .ok (.iaload, 1) := by decide +kernel
theorem dX13_readReads_274 : decode cX13_readReads 274 = .ok (.iload 6, 2) := by decide +kernel
theorem dX13_readReads_276 : decode cX13_readReads 276 = .ok (.ior, 1) := by decide +kernel
theorem dX13_readReads_277 : decode cX13_readReads 277 = .ok (.goto 38, 3) := by decide +kernel
theorem dX13_readReads_280 : decode cX13_readReads 280 = .ok (.iload 5, 2) := by decide +kernel
theorem dX13_readReads_282 : decode cX13_readReads 282 = .ok (.iconst 1, 1) := by decide +kernel
theorem dX13_readReads_283 : decode cX13_readReads 283 = .ok (.if_icmp .ne 20, 3) := by decide +kernel
theorem dX13_readReads_286 : decode cX13_readReads 286 = .ok (.aload_n 0, 1) := by decide +kernel
theorem dX13_readReads_287 : decode cX13_readReads 287 = .ok (.getfield 37, 3) := by decide +kernel
theorem dX13_readReads_290 : decode cX13_readReads 290 = .ok (.iload_n 3, 1) := by decide +kernel
theorem dX13_readReads_291 : decode cX13_readReads 291 = .ok (.iload 7, 2) := by decide +kernel
theorem dX13_readReads_293 : decode cX13_readReads 293 = .ok (.iadd, 1) := by decide +kernel
theorem dX13_readReads_294 : decode cX13_readReads 294 = .ok (.iaload, 1) := by decide +kernel
theorem dX13_readReads_295 : decode cX13_readReads 295 = .ok (.iload 6, 2) := by decide +kernel
theorem dX13_readReads_297 : decode cX13_readReads 297 = .ok (.iconst (-1), 1) := by decide +kernel
theorem dX13_readReads_298 : decode cX13_readReads 298 = .ok (.ixor, 1) := by decide +kernel
theorem dX13_readReads_299 : decode cX13_readReads 299 = .ok (.iand, 1) := by decide +kernel
theorem dX13_readReads_300 : decode cX13_readReads 300 = .ok (.goto 15, 3) := by decide +kernel
theorem dX13_readReads_303 : decode cX13_readReads 303 = .ok (.aload_n 0, 1) := by decide +kernel
theorem dX13_readReads_304 : decode cX13_readReads 304 = .ok (.getfield 37, 3) := by decide +kernel
theorem dX13_readReads_307 : decode cX13_readReads 307 = .ok (.iload_n 3, 1) := by decide +kernel
theorem dX13_readReads_308 : decode cX13_readReads 308 = .ok (.iload 7, 2) := by decide +kernel
theorem dX13_readReads_310 : decode cX13_readReads 310 = .ok (.iadd, 1) := by decide +kernel
theorem dX13_readReads_311 : decode cX13_readReads 311 = .ok (.iaload, 1) := by decide +kernel
theorem dX13_readReads_312 : decode cX13_readReads 312 = .ok (.iload 6, 2) := by decide +kernel
theorem dX13_readReads_314 : decode cX13_readReads 314 = .ok (.ixor, 1) := by decide +kernel
theorem dX13_readReads_315 : decode cX13_readReads 315 = .ok (.iastore, 1) := by decide +kernel
theorem dX13_readReads_316 : decode cX13_readReads 316 = .ok (.iinc 7 1, 3) := by decide +kernel
theorem dX13_readReads_319 : decode cX13_readReads 319 = .ok (.goto (-74), 3) := by decide +kernel
theorem dX13_readReads_322 : decode cX13_readReads 322 = .ok (.iinc 4 1, 3) := by decide +kernel
theorem dX13_readReads_325 : decode cX13_readReads 325 = .ok (.goto (-186), 3) := by decide +kernel
theorem dX13_readReads_328 : decode cX13_readReads 328 = .ok (.iconst 1, 1) := by decide +kernel
theorem dX13_readReads_329 : decode cX13_readReads 329 = .ok (.ireturn, 1) := by decide +kernel
theorem dX13_readEdict_0 : decode cX13_readEdict 0 = .ok (.aload_n 0, 1) := by decide +kernel
theorem dX13_readEdict_1 : decode cX13_readEdict 1 = .ok (.getfield 251, 3) := by decide +kernel
theorem dX13_readEdict_4 : decode cX13_readEdict 4 = .ok (.ifCond .ne 10, 3) := by decide +kernel
theorem dX13_readEdict_7 : decode cX13_readEdict 7 = .ok (.aload_n 0, 1) := by decide +kernel
theorem dX13_readEdict_8 : decode cX13_readEdict 8 = .ok (.getfield 254, 3) := by decide +kernel
theorem dX13_readEdict_11 : decode cX13_readEdict 11 = .ok (.ifCond .eq 9, 3) := by decide +kernel
theorem dX13_readEdict_14 : decode cX13_readEdict 14 = .ok (.aload_n 0, 1) := by decide +kernel
theorem dX13_readEdict_15 : decode cX13_readEdict 15 = .ok (.iconst 3, 1) := by decide +kernel
theorem dX13_readEdict_16 : decode cX13_readEdict 16 = .ok (.invokevirtual 198, 3) := by decide +kernel
theorem dX13_readEdict_19 : decode cX13_readEdict 19 = .ok (.ireturn, 1) := by decide +kernel
theorem dX13_readEdict_20 : decode cX13_readEdict 20 = .ok (.aload_n 0, 1) := by decide +kernel
theorem dX13_readEdict_21 : decode cX13_readEdict 21 = .ok (.iconst 1, 1) := by decide +kernel
theorem dX13_readEdict_22 : decode cX13_readEdict 22 = .ok (.putfield 251, 3) := by decide +kernel
theorem dX13_readEdict_25 : decode cX13_readEdict 25 = .ok (.aload_n 0, 1) := by decide +kernel
theorem dX13_readEdict_26 : decode cX13_readEdict 26 = .ok (.invokevirtual 201, 3) := by decide +kernel
theorem dX13_readEdict_29 : decode cX13_readEdict 29 = .ok (.aload_n 0, 1) := by decide +kernel
theorem dX13_readEdict_30 : decode cX13_readEdict 30 = .ok (.iconst 2, 1) := by decide +kernel
theorem dX13_readEdict_31 : decode cX13_readEdict 31 = .ok (.iconst 5, 1) := by decide +kernel
theorem dX13_readEdict_32 : decode cX13_readEdict 32 = .ok (.invokevirtual 248, 3) := by decide +kernel
theorem dX13_readEdict_35 : decode cX13_readEdict 35 = .ok (.ifCond .ne 5, 3) := by decide +kernel
theorem dX13_readEdict_38 : decode cX13_readEdict 38 = .ok (.iconst 0, 1) := by decide +kernel
theorem dX13_readEdict_39 : decode cX13_readEdict 39 = .ok (.ireturn, 1) := by decide +kernel
theorem dX13_readEdict_40 : decode cX13_readEdict 40 = .ok (.aload_n 0, 1) := by decide +kernel
theorem dX13_readEdict_41 : decode cX13_readEdict 41 = .ok (.getfield 37, 3) := by decide +kernel
theorem dX13_readEdict_44 : decode cX13_readEdict 44 = .ok (.iconst 3, 1) := by decide +kernel
theorem dX13_readEdict_45 : decode cX13_readEdict 45 = .ok (.aload_n 0, 1) := by decide +kernel
theorem dX13_readEdict_46 : decode cX13_readEdict 46 = .ok (.getfield 208, 3) := by decide +kernel
theorem dX13_readEdict_49 : decode cX13_readEdict 49 = .ok (.iastore, 1) := by decide +kernel
theorem dX13_readEdict_50 : decode cX13_readEdict 50 = .ok (.aload_n 0, 1) := by decide +kernel
theorem dX13_readEdict_51 : decode cX13_readEdict 51 = .ok (.iconst 1, 1) := by decide +kernel
theorem dX13_readEdict_52 : decode cX13_readEdict 52 = .ok (.aload_n 0, 1) := by decide +kernel
theorem dX13_readEdict_53 : decode cX13_readEdict 53 = .ok (.getfield 208, 3) := by decide +kernel
theorem dX13_readEdict_56 : decode cX13_readEdict 56 = .ok (.iconst 1, 1) := by decide +kernel
theorem dX13_readEdict_57 : decode cX13_readEdict 57 = .ok (.isub, 1) := by decide +kernel
theorem dX13_readEdict_58 : decode cX13_readEdict 58 = .ok (.invokevirtual 248, 3) := by decide +kernel
theorem dX13_readEdict_61 : decode cX13_readEdict 61 = .ok (.ifCond .ne 5, 3) := by decide +kernel
theorem dX13_readEdict_64 : decode cX13_readEdict 64 = .ok (.iconst 0, 1) := by decide +kernel
theorem dX13_readEdict_65 : decode cX13_readEdict 65 = .ok (.ireturn, 1) := by decide +kernel
theorem dX13_readEdict_66 : decode cX13_readEdict 66 = .ok (.aload_n 0, 1) := by decide +kernel
theorem dX13_readEdict_67 : decode cX13_readEdict 67 = .ok (.getfield 37, 3) := by decide +kernel
theorem dX13_readEdict_70 : decode cX13_readEdict 70 = .ok (.iconst 4, 1) := by decide +kernel
theorem dX13_readEdict_71 : decode cX13_readEdict 71 = .ok (.aload_n 0, 1) := by decide +kernel
theorem dX13_readEdict_72 : decode cX13_readEdict 72 = .ok (.getfield 208, 3) := by decide +kernel
theorem dX13_readEdict_75 : decode cX13_readEdict 75 = .ok (.iastore, 1) := by decide +kernel
theorem dX13_readEdict_76 : decode cX13_readEdict 76 = .ok (.iconst 1, 1) := by decide +kernel
theorem dX13_readEdict_77 : decode cX13_readEdict 77 = .ok (.ireturn, 1) := by decide +kernel
theorem dX13_readClerk_0 : decode cX13_readClerk 0 = .ok (.aload_n 0, 1) := by decide +kernel
theorem dX13_readClerk_1 : decode cX13_readClerk 1 = .ok (.invokevirtual 201, 3) := by decide +kernel
theorem dX13_readClerk_4 : decode cX13_readClerk 4 = .ok (.aload_n 0, 1) := by decide +kernel
theorem dX13_readClerk_5 : decode cX13_readClerk 5 = .ok (.getfield 172, 3) := by decide +kernel
theorem dX13_readClerk_8 : decode cX13_readClerk 8 = .ok (.iconst 2, 1) := by decide +kernel
theorem dX13_readClerk_9 : decode cX13_readClerk 9 = .ok (.if_icmp .eq 9, 3) := by decide +kernel
theorem dX13_readClerk_12 : decode cX13_readClerk 12 = .ok (.aload_n 0, 1) := by decide +kernel
theorem dX13_readClerk_13 : decode cX13_readClerk 13 = .ok (.iconst 1, 1) := by decide +kernel
theorem dX13_readClerk_14 : decode cX13_readClerk 14 = .ok (.invokevirtual 198, 3) := by decide +kernel
theorem dX13_readClerk_17 : decode cX13_readClerk 17 = .ok (.ireturn, 1) := by decide +kernel
theorem dX13_readClerk_18 : decode cX13_readClerk 18 = .ok (.aload_n 0, 1) := by decide +kernel
theorem dX13_readClerk_19 : decode cX13_readClerk 19 = .ok (.getfield 182, 3) := by decide +kernel
theorem dX13_readClerk_22 : decode cX13_readClerk 22 = .ok (.iconst 1, 1) := by decide +kernel
theorem dX13_readClerk_23 : decode cX13_readClerk 23 = .ok (.aload_n 0, 1) := by decide +kernel
theorem dX13_readClerk_24 : decode cX13_readClerk 24 = .ok (.getfield 37, 3) := by decide +kernel
theorem dX13_readClerk_27 : decode cX13_readClerk 27 = .ok (.iconst 3, 1) := by decide +kernel
theorem dX13_readClerk_28 : decode cX13_readClerk 28 = .ok (.iaload, 1) := by decide +kernel
theorem dX13_readClerk_29 : decode cX13_readClerk 29 = .ok (.invokestatic 204, 3) := by decide +kernel
theorem dX13_readClerk_32 : decode cX13_readClerk 32 = .ok (.ifCond .ne 9, 3) := by decide +kernel
theorem dX13_readClerk_35 : decode cX13_readClerk 35 = .ok (.aload_n 0, 1) := by decide +kernel
theorem dX13_readClerk_36 : decode cX13_readClerk 36 = .ok (.iconst 2, 1) := by decide +kernel
theorem dX13_readClerk_37 : decode cX13_readClerk 37 = .ok (.invokevirtual 198, 3) := by decide +kernel
theorem dX13_readClerk_40 : decode cX13_readClerk 40 = .ok (.ireturn, 1) := by decide +kernel
theorem dX13_readClerk_41 : decode cX13_readClerk 41 = .ok (.aload_n 0, 1) := by decide +kernel
theorem dX13_readClerk_42 : decode cX13_readClerk 42 = .ok (.getfield 254, 3) := by decide +kernel
theorem dX13_readClerk_45 : decode cX13_readClerk 45 = .ok (.aload_n 0, 1) := by decide +kernel
theorem dX13_readClerk_46 : decode cX13_readClerk 46 = .ok (.getfield 182, 3) := by decide +kernel
theorem dX13_readClerk_49 : decode cX13_readClerk 49 = .ok (.invokestatic 257, 3) := by decide +kernel
theorem dX13_readClerk_52 : decode cX13_readClerk 52 = .ok (.ifCond .eq 9, 3) := by decide +kernel
theorem dX13_readClerk_55 : decode cX13_readClerk 55 = .ok (.aload_n 0, 1) := by decide +kernel
theorem dX13_readClerk_56 : decode cX13_readClerk 56 = .ok (.iconst 3, 1) := by decide +kernel
theorem dX13_readClerk_57 : decode cX13_readClerk 57 = .ok (.invokevirtual 198, 3) := by decide +kernel
theorem dX13_readClerk_60 : decode cX13_readClerk 60 = .ok (.ireturn, 1) := by decide +kernel
theorem dX13_readClerk_61 : decode cX13_readClerk 61 = .ok (.aload_n 0, 1) := by decide +kernel
theorem dX13_readClerk_62 : decode cX13_readClerk 62 = .ok (.dup, 1) := by decide +kernel
theorem dX13_readClerk_63 : decode cX13_readClerk 63 = .ok (.getfield 254, 3) := by decide +kernel
theorem dX13_readClerk_66 : decode cX13_readClerk 66 = .ok (.iconst 1, 1) := by decide +kernel
theorem dX13_readClerk_67 : decode cX13_readClerk 67 = .ok (.aload_n 0, 1) := by decide +kernel
theorem dX13_readClerk_68 : decode cX13_readClerk 68 = .ok (.getfield 182, 3) := by decide +kernel
theorem dX13_readClerk_71 : decode cX13_readClerk 71 = .ok (.ishl, 1) := by decide +kernel
theorem dX13_readClerk_72 : decode cX13_readClerk 72 = .ok (.ior, 1) := by decide +kernel
theorem dX13_readClerk_73 : decode cX13_readClerk 73 = .ok (.putfield 254, 3) := by decide +kernel
theorem dX13_readClerk_76 : decode cX13_readClerk 76 = .ok (.sipush 432, 3) := by decide +kernel
theorem dX13_readClerk_79 : decode cX13_readClerk 79 = .ok (.aload_n 0, 1) := by decide +kernel
theorem dX13_readClerk_80 : decode cX13_readClerk 80 = .ok (.getfield 182, 3) := by decide +kernel
theorem dX13_readClerk_83 : decode cX13_readClerk 83 = .ok (.iadd, 1) := by decide +kernel
theorem dX13_readClerk_84 : decode cX13_readClerk 84 = .ok (.iconst 1, 1) := by decide +kernel
theorem dX13_readClerk_85 : decode cX13_readClerk 85 = .ok (.isub, 1) := by decide +kernel
theorem dX13_readClerk_86 : decode cX13_readClerk 86 = .ok (.istore_n 1, 1) := by decide +kernel
theorem dX13_readClerk_87 : decode cX13_readClerk 87 = .ok (.aload_n 0, 1) := by decide +kernel
theorem dX13_readClerk_88 : decode cX13_readClerk 88 = .ok (.invokevirtual 201, 3) := by decide +kernel
theorem dX13_readClerk_91 : decode cX13_readClerk 91 = .ok (.aload_n 0, 1) := by decide +kernel
theorem dX13_readClerk_92 : decode cX13_readClerk 92 = .ok (.iconst 0, 1) := by decide +kernel
theorem dX13_readClerk_93 : decode cX13_readClerk 93 = .ok (.bipush 9, 2) := by decide +kernel
theorem dX13_readClerk_95 : decode cX13_readClerk 95 = .ok (.invokevirtual 248, 3) := by decide +kernel
theorem dX13_readClerk_98 : decode cX13_readClerk 98 = .ok (.ifCond .ne 5, 3) := by decide +kernel
theorem dX13_readClerk_101 : decode cX13_readClerk 101 = .ok (.iconst 0, 1) := by decide +kernel
theorem dX13_readClerk_102 : decode cX13_readClerk 102 = .ok (.ireturn, 1) := by decide +kernel
theorem dX13_readClerk_103 : decode cX13_readClerk 103 = .ok (.aload_n 0, 1) := by decide +kernel
theorem dX13_readClerk_104 : decode cX13_readClerk 104 = .ok (.getfield 37, 3) := by decide +kernel
theorem dX13_readClerk_107 : decode cX13_readClerk 107 = .ok (.iload_n 1, 1) := by decide +kernel
theorem dX13_readClerk_108 : decode cX13_readClerk 108 = .ok (.aload_n 0, 1) := by decide +kernel
theorem dX13_readClerk_109 : decode cX13_readClerk 109 = .ok (.getfield 208, 3) := by decide +kernel
theorem dX13_readClerk_112 : decode cX13_readClerk 112 = .ok (.iastore, 1) := by decide +kernel
theorem dX13_readClerk_113 : decode cX13_readClerk 113 = .ok (.iconst 1, 1) := by decide +kernel
theorem dX13_readClerk_114 : decode cX13_readClerk 114 = .ok (.ireturn, 1) := by decide +kernel
theorem dX13_tongue_0 : decode cX13_tongue 0 = .ok (.aload_n 0, 1) := by decide +kernel
theorem dX13_tongue_1 : decode cX13_tongue 1 = .ok (.iconst 0, 1) := by decide +kernel
theorem dX13_tongue_2 : decode cX13_tongue 2 = .ok (.putfield 1, 3) := by decide +kernel
theorem dX13_tongue_5 : decode cX13_tongue 5 = .ok (.aload_n 0, 1) := by decide +kernel
theorem dX13_tongue_6 : decode cX13_tongue 6 = .ok (.sipush 900, 3) := by decide +kernel
theorem dX13_tongue_9 : decode cX13_tongue 9 = .ok (.invokevirtual 260, 3) := by decide +kernel
theorem dX13_tongue_12 : decode cX13_tongue 12 = .ok (.aload_n 0, 1) := by decide +kernel
theorem dX13_tongue_13 : decode cX13_tongue 13 = .ok (.iconst 0, 1) := by decide +kernel
theorem dX13_tongue_14 : decode cX13_tongue 14 = .ok (.putfield 189, 3) := by decide +kernel
theorem dX13_tongue_17 : decode cX13_tongue 17 = .ok (.aload_n 0, 1) := by decide +kernel
theorem dX13_tongue_18 : decode cX13_tongue 18 = .ok (.iconst 0, 1) := by decide +kernel
theorem dX13_tongue_19 : decode cX13_tongue 19 = .ok (.putfield 263, 3) := by decide +kernel
theorem dX13_tongue_22 : decode cX13_tongue 22 = .ok (.aload_n 0, 1) := by decide +kernel
theorem dX13_tongue_23 : decode cX13_tongue 23 = .ok (.iconst 0, 1) := by decide +kernel
theorem dX13_tongue_24 : decode cX13_tongue 24 = .ok (.putfield 254, 3) := by decide +kernel
theorem dX13_tongue_27 : decode cX13_tongue 27 = .ok (.aload_n 0, 1) := by decide +kernel
theorem dX13_tongue_28 : decode cX13_tongue 28 = .ok (.iconst 0, 1) := by decide +kernel
theorem dX13_tongue_29 : decode cX13_tongue 29 = .ok (.putfield 251, 3) := by decide +kernel
theorem dX13_tongue_32 : decode cX13_tongue 32 = .ok (.aload_n 0, 1) := by decide +kernel
theorem dX13_tongue_33 : decode cX13_tongue 33 = .ok (.invokevirtual 159, 3) := by decide +kernel
theorem dX13_tongue_36 : decode cX13_tongue 36 = .ok (.aload_n 0, 1) := by decide +kernel
theorem dX13_tongue_37 : decode cX13_tongue 37 = .ok (.invokevirtual 201, 3) := by decide +kernel
theorem dX13_tongue_40 : decode cX13_tongue 40 = .ok (.aload_n 0, 1) := by decide +kernel
theorem dX13_tongue_41 : decode cX13_tongue 41 = .ok (.getfield 172, 3) := by decide +kernel
theorem dX13_tongue_44 : decode cX13_tongue 44 = .ok (.ifCond .eq 39, 3) := by decide +kernel
theorem dX13_tongue_47 : decode cX13_tongue 47 = .ok (.aload_n 0, 1) := by decide +kernel
theorem dX13_tongue_48 : decode cX13_tongue 48 = .ok (.invokevirtual 266, 3) := by decide +kernel
theorem dX13_tongue_51 : decode cX13_tongue 51 = .ok (.ifCond .eq 12, 3) := by decide +kernel
theorem dX13_tongue_54 : decode cX13_tongue 54 = .ok (.aload_n 0, 1) := by decide +kernel
theorem dX13_tongue_55 : decode cX13_tongue 55 = .ok (.bipush 59, 2) := by decide +kernel
theorem dX13_tongue_57 : decode cX13_tongue 57 = .ok (.invokevirtual 269, 3) := by decide +kernel
theorem dX13_tongue_60 : decode cX13_tongue 60 = .ok (.ifCond .ne 10, 3) := by decide +kernel
theorem dX13_tongue_63 : decode cX13_tongue 63 = .ok (.iconst (-1), 1) := by decide +kernel
theorem dX13_tongue_64 : decode cX13_tongue 64 = .ok (.aload_n 0, 1) := by decide +kernel
theorem dX13_tongue_65 : decode cX13_tongue 65 = .ok (.getfield 192, 3) := by decide +kernel
theorem dX13_tongue_68 : decode cX13_tongue 68 = .ok (.isub, 1) := by decide +kernel
theorem dX13_tongue_69 : decode cX13_tongue 69 = .ok (.ireturn, 1) := by decide +kernel
theorem dX13_tongue_70 : decode cX13_tongue 70 = .ok (.aload_n 0, 1) := by decide +kernel
theorem dX13_tongue_71 : decode cX13_tongue 71 = .ok (.dup, 1) := by decide +kernel
theorem dX13_tongue_72 : decode cX13_tongue 72 = .ok (.getfield 263, 3) := by decide +kernel
theorem dX13_tongue_75 : decode cX13_tongue 75 = .ok (.iconst 1, 1) := by decide +kernel
theorem dX13_tongue_76 : decode cX13_tongue 76 = .ok (.iadd, 1) := by decide +kernel
theorem dX13_tongue_77 : decode cX13_tongue 77 = .ok (.putfield 263, 3) := by decide +kernel
theorem dX13_tongue_80 : decode cX13_tongue 80 = .ok (.goto (-40), 3) := by decide +kernel
theorem dX13_tongue_83 : decode cX13_tongue 83 = .ok (.iconst 0, 1) := by decide +kernel
theorem dX13_tongue_84 : decode cX13_tongue 84 = .ok (.istore_n 1, 1) := by decide +kernel
theorem dX13_tongue_85 : decode cX13_tongue 85 = .ok (.iload_n 1, 1) := by decide +kernel
theorem dX13_tongue_86 : decode cX13_tongue 86 = .ok (.sipush 713, 3) := by decide +kernel
theorem dX13_tongue_89 : decode cX13_tongue 89 = .ok (.if_icmp .ge 32, 3) := by decide +kernel
theorem dX13_tongue_92 : decode cX13_tongue 92 = .ok (.aload_n 0, 1) := by decide +kernel
theorem dX13_tongue_93 : decode cX13_tongue 93 = .ok (.getfield 33, 3) := by decide +kernel
theorem dX13_tongue_96 : decode cX13_tongue 96 = .ok (.iload_n 1, 1) := by decide +kernel
theorem dX13_tongue_97 : decode cX13_tongue 97 = .ok (.iload_n 1, 1) := by decide +kernel
theorem dX13_tongue_98 : decode cX13_tongue 98 = .ok (.sipush 437, 3) := by decide +kernel
theorem dX13_tongue_101 : decode cX13_tongue 101 = .ok (.if_icmp .ge 12, 3) := by decide +kernel
theorem dX13_tongue_104 : decode cX13_tongue 104 = .ok (.aload_n 0, 1) := by decide +kernel
theorem dX13_tongue_105 : decode cX13_tongue 105 = .ok (.getfield 37, 3) := by decide +kernel
theorem dX13_tongue_108 : decode cX13_tongue 108 = .ok (.iload_n 1, 1) := by decide +kernel
theorem dX13_tongue_109 : decode cX13_tongue 109 = .ok (.iaload, 1) := by decide +kernel
theorem dX13_tongue_110 : decode cX13_tongue 110 = .ok (.goto 4, 3) := by decide +kernel
theorem dX13_tongue_113 : decode cX13_tongue 113 = .ok (.iconst 0, 1) := by decide +kernel
theorem dX13_tongue_114 : decode cX13_tongue 114 = .ok (.iastore, 1) := by decide +kernel
theorem dX13_tongue_115 : decode cX13_tongue 115 = .ok (.iinc 1 1, 3) := by decide +kernel
theorem dX13_tongue_118 : decode cX13_tongue 118 = .ok (.goto (-33), 3) := by decide +kernel
theorem dX13_tongue_121 : decode cX13_tongue 121 = .ok (.iconst 0, 1) := by decide +kernel
theorem dX13_tongue_122 : decode cX13_tongue 122 = .ok (.istore_n 1, 1) := by decide +kernel
theorem dX13_tongue_123 : decode cX13_tongue 123 = .ok (.iload_n 1, 1) := by decide +kernel
theorem dX13_tongue_124 : decode cX13_tongue 124 = .ok (.bipush 16, 2) := by decide +kernel
theorem dX13_tongue_126 : decode cX13_tongue 126 = .ok (.if_icmp .ge 24, 3) := by decide +kernel
theorem dX13_tongue_129 : decode cX13_tongue 129 = .ok (.aload_n 0, 1) := by decide +kernel
theorem dX13_tongue_130 : decode cX13_tongue 130 = .ok (.getfield 40, 3) := by decide +kernel
theorem dX13_tongue_133 : decode cX13_tongue 133 = .ok (.iload_n 1, 1) := by decide +kernel
theorem dX13_tongue_134 : decode cX13_tongue 134 = .ok (.aload_n 0, 1) := by decide +kernel
theorem dX13_tongue_135 : decode cX13_tongue 135 = .ok (.getfield 40, 3) := by decide +kernel
theorem dX13_tongue_138 : decode cX13_tongue 138 = .ok (.bipush 16, 2) := by decide +kernel
theorem dX13_tongue_140 : decode cX13_tongue 140 = .ok (.iload_n 1, 1) := by decide +kernel
theorem dX13_tongue_141 : decode cX13_tongue 141 = .ok (.iadd, 1) := by decide +kernel
theorem dX13_tongue_142 : decode cX13_tongue 142 = .ok (.laload, 1) := by decide +kernel
theorem dX13_tongue_143 : decode cX13_tongue 143 = .ok (.lastore, 1) := by decide +kernel
theorem dX13_tongue_144 : decode cX13_tongue 144 = .ok (.iinc 1 1, 3) := by decide +kernel
theorem dX13_tongue_147 : decode cX13_tongue 147 = .ok (.goto (-24), 3) := by decide +kernel
theorem dX13_tongue_150 : decode cX13_tongue 150 = .ok (.aload_n 0, 1) := by decide +kernel
theorem dX13_tongue_151 : decode cX13_tongue 151 = .ok (.iconst 1, 1) := by decide +kernel
theorem dX13_tongue_152 : decode cX13_tongue 152 = .ok (.putfield 65, 3) := by decide +kernel
theorem dX13_tongue_155 : decode cX13_tongue 155 = .ok (.aload_n 0, 1) := by decide +kernel
theorem dX13_tongue_156 : decode cX13_tongue 156 = .ok (.getfield 263, 3) := by decide +kernel
theorem dX13_tongue_159 : decode cX13_tongue 159 = .ok (.ireturn, 1) := by decide +kernel
theorem dX13_fault_0 : decode cX13_fault 0 = .ok (.aload_n 0, 1) := by decide +kernel
theorem dX13_fault_1 : decode cX13_fault 1 = .ok (.iconst 0, 1) := by decide +kernel
theorem dX13_fault_2 : decode cX13_fault 2 = .ok (.putfield 1, 3) := by decide +kernel
theorem dX13_fault_5 : decode cX13_fault 5 = .ok (.aload_n 0, 1) := by decide +kernel
theorem dX13_fault_6 : decode cX13_fault 6 = .ok (.getfield 189, 3) := by decide +kernel
theorem dX13_fault_9 : decode cX13_fault 9 = .ok (.ireturn, 1) := by decide +kernel
theorem dX13_isSaying_0 : decode cX13_isSaying 0 = .ok (.iload_n 1, 1) := by decide +kernel
theorem dX13_isSaying_1 : decode cX13_isSaying 1 = .ok (.iconst 0, 1) := by decide +kernel
theorem dX13_isSaying_2 : decode cX13_isSaying 2 = .ok (.aload_n 0, 1) := by decide +kernel
theorem dX13_isSaying_3 : decode cX13_isSaying 3 = .ok (.getfield 33, 3) := by decide +kernel
theorem dX13_isSaying_6 : decode cX13_isSaying 6 = .ok (.iconst 2, 1) := by decide +kernel
theorem dX13_isSaying_7 : decode cX13_isSaying 7 = .ok (.iaload, 1) := by decide +kernel
theorem dX13_isSaying_8 : decode cX13_isSaying 8 = .ok (.iconst 1, 1) := by decide +kernel
theorem dX13_isSaying_9 : decode cX13_isSaying 9 = .ok (.isub, 1) := by decide +kernel
theorem dX13_isSaying_10 : decode cX13_isSaying 10 = .ok (.invokestatic 204, 3) := by decide +kernel
theorem dX13_isSaying_13 : decode cX13_isSaying 13 = .ok (.ireturn, 1) := by decide +kernel
theorem dX13_word_0 : decode cX13_word 0 = .ok (.aload_n 0, 1) := by decide +kernel
theorem dX13_word_1 : decode cX13_word 1 = .ok (.aload_n 0, 1) := by decide +kernel
theorem dX13_word_2 : decode cX13_word 2 = .ok (.iload_n 1, 1) := by decide +kernel
theorem dX13_word_3 : decode cX13_word 3 = .ok (.invokevirtual 272, 3) := by decide +kernel
theorem dX13_word_6 : decode cX13_word 6 = .ok (.ifCond .eq 12, 3) := by decide +kernel
theorem dX13_word_9 : decode cX13_word 9 = .ok (.iload_n 2, 1) := by decide +kernel
theorem dX13_word_10 : decode cX13_word 10 = .ok (.iconst 0, 1) := by decide +kernel
theorem dX13_word_11 : decode cX13_word 11 = .ok (.iconst 4, 1) := by decide +kernel
theorem dX13_word_12 : decode cX13_word 12 = .ok (.invokestatic 204, 3) := by decide +kernel
theorem dX13_word_15 : decode cX13_word 15 = .ok (.ifCond .ne 7, 3) := by decide +kernel
theorem dX13_word_18 : decode cX13_word 18 = .ok (.iconst 1, 1) := by decide +kernel
theorem dX13_word_19 : decode cX13_word 19 = .ok (.goto 4, 3) := by decide +kernel
theorem dX13_word_22 : decode cX13_word 22 = .ok (.iconst 0, 1) := by decide +kernel
theorem dX13_word_23 : decode cX13_word 23 = .ok (.invokevirtual 275, 3) := by decide +kernel
theorem dX13_word_26 : decode cX13_word 26 = .ok (.ifCond .eq 5, 3) := by decide +kernel
theorem dX13_word_29 : decode cX13_word 29 = .ok (.iconst 0, 1) := by decide +kernel
theorem dX13_word_30 : decode cX13_word 30 = .ok (.ireturn, 1) := by decide +kernel
theorem dX13_word_31 : decode cX13_word 31 = .ok (.iconst 0, 1) := by decide +kernel
theorem dX13_word_32 : decode cX13_word 32 = .ok (.istore_n 3, 1) := by decide +kernel
theorem dX13_word_33 : decode cX13_word 33 = .ok (.iconst 0, 1) := by decide +kernel
theorem dX13_word_34 : decode cX13_word 34 = .ok (.istore 4, 2) := by decide +kernel
theorem dX13_word_36 : decode cX13_word 36 = .ok (.iload 4, 2) := by decide +kernel
theorem dX13_word_38 : decode cX13_word 38 = .ok (.iconst 5, 1) := by decide +kernel
theorem dX13_word_39 : decode cX13_word 39 = .ok (.if_icmp .ge 26, 3) := by decide +kernel
theorem dX13_word_42 : decode cX13_word 42 = .ok (.iload_n 3, 1) := by decide +kernel
theorem dX13_word_43 : decode cX13_word 43 = .ok (.aload_n 0, 1) := by decide +kernel
theorem dX13_word_44 : decode cX13_word 44 = .ok (.getfield 33, 3) := by decide +kernel
theorem dX13_word_47 : decode cX13_word 47 = .ok (.bipush 72, 2) := by decide +kernel
theorem dX13_word_49 : decode cX13_word 49 = .ok (.iconst 5, 1) := by decide +kernel
theorem dX13_word_50 : decode cX13_word 50 = .ok (.iload_n 1, 1) := by decide +kernel
theorem dX13_word_51 : decode cX13_word 51 = .ok (.imul, 1) := by decide +kernel
theorem dX13_word_52 : decode cX13_word 52 = .ok (.iadd, 1) := by decide +kernel
theorem dX13_word_53 : decode cX13_word 53 = .ok (.iload 4, 2) := by decide +kernel
theorem dX13_word_55 : decode cX13_word 55 = .ok (.iadd, 1) := by decide +kernel
theorem dX13_word_56 : decode cX13_word 56 = .ok (.iaload, 1) := by decide +kernel
theorem dX13_word_57 : decode cX13_word 57 = .ok (.iadd, 1) := by decide +kernel
theorem dX13_word_58 : decode cX13_word 58 = .ok (.istore_n 3, 1) := by decide +kernel
theorem dX13_word_59 : decode cX13_word 59 = .ok (.iinc 4 1, 3) := by decide +kernel
theorem dX13_word_62 : decode cX13_word 62 = .ok (.goto (-26), 3) := by decide +kernel
theorem dX13_word_65 : decode cX13_word 65 = .ok (.iload_n 2, 1) := by decide +kernel
theorem dX13_word_66 : decode cX13_word 66 = .ok (.ifCond .ne 15, 3) := by decide +kernel
theorem dX13_word_69 : decode cX13_word 69 = .ok (.aload_n 0, 1) := by decide +kernel
theorem dX13_word_70 : decode cX13_word 70 = .ok (.getfield 33, 3) := by decide +kernel
theorem dX13_word_73 : decode cX13_word 73 = .ok (.bipush 40, 2) := by decide +kernel
theorem dX13_word_75 : decode cX13_word 75 = .ok (.iload_n 1, 1) := by decide +kernel
theorem dX13_word_76 : decode cX13_word 76 = .ok (.iadd, 1) := by decide +kernel
theorem dX13_word_77 : decode cX13_word 77 = .ok (.iaload, 1) := by decide +kernel
theorem dX13_word_78 : decode cX13_word 78 = .ok (.goto 55, 3) := by decide +kernel
theorem dX13_word_81 : decode cX13_word 81 = .ok (.iload_n 2, 1) := by decide +kernel
theorem dX13_word_82 : decode cX13_word 82 = .ok (.iconst 1, 1) := by decide +kernel
theorem dX13_word_83 : decode cX13_word 83 = .ok (.if_icmp .ne 15, 3) := by decide +kernel
theorem dX13_word_86 : decode cX13_word 86 = .ok (.aload_n 0, 1) := by decide +kernel
theorem dX13_word_87 : decode cX13_word 87 = .ok (.getfield 33, 3) := by decide +kernel
theorem dX13_word_90 : decode cX13_word 90 = .ok (.bipush 48, 2) := by decide +kernel
theorem dX13_word_92 : decode cX13_word 92 = .ok (.iload_n 1, 1) := by decide +kernel
theorem dX13_word_93 : decode cX13_word 93 = .ok (.iadd, 1) := by decide +kernel
theorem dX13_word_94 : decode cX13_word 94 = .ok (.iaload, 1) := by decide +kernel
theorem dX13_word_95 : decode cX13_word 95 = .ok (.goto 38, 3) := by decide +kernel
theorem dX13_word_98 : decode cX13_word 98 = .ok (.iload_n 2, 1) := by decide +kernel
theorem dX13_word_99 : decode cX13_word 99 = .ok (.iconst 2, 1) := by decide +kernel
theorem dX13_word_100 : decode cX13_word 100 = .ok (.if_icmp .ne 15, 3) := by decide +kernel
theorem dX13_word_103 : decode cX13_word 103 = .ok (.aload_n 0, 1) := by decide +kernel
theorem dX13_word_104 : decode cX13_word 104 = .ok (.getfield 33, 3) := by decide +kernel
theorem dX13_word_107 : decode cX13_word 107 = .ok (.bipush 56, 2) := by decide +kernel
theorem dX13_word_109 : decode cX13_word 109 = .ok (.iload_n 1, 1) := by decide +kernel
theorem dX13_word_110 : decode cX13_word 110 = .ok (.iadd, 1) := by decide +kernel
theorem dX13_word_111 : decode cX13_word 111 = .ok (.iaload, 1) := by decide +kernel
theorem dX13_word_112 : decode cX13_word 112 = .ok (.goto 21, 3) := by decide +kernel
theorem dX13_word_115 : decode cX13_word 115 = .ok (.iload_n 2, 1) := by decide +kernel
theorem dX13_word_116 : decode cX13_word 116 = .ok (.iconst 3, 1) := by decide +kernel
theorem dX13_word_117 : decode cX13_word 117 = .ok (.if_icmp .ne 15, 3) := by decide +kernel
theorem dX13_word_120 : decode cX13_word 120 = .ok (.aload_n 0, 1) := by decide +kernel
theorem dX13_word_121 : decode cX13_word 121 = .ok (.getfield 33, 3) := by decide +kernel
theorem dX13_word_124 : decode cX13_word 124 = .ok (.bipush 64, 2) := by decide +kernel
theorem dX13_word_126 : decode cX13_word 126 = .ok (.iload_n 1, 1) := by decide +kernel
theorem dX13_word_127 : decode cX13_word 127 = .ok (.iadd, 1) := by decide +kernel
theorem dX13_word_128 : decode cX13_word 128 = .ok (.iaload, 1) := by decide +kernel
theorem dX13_word_129 : decode cX13_word 129 = .ok (.goto 4, 3) := by decide +kernel
theorem dX13_word_132 : decode cX13_word 132 = .ok (.iload_n 3, 1) := by decide +kernel
theorem dX13_word_133 : decode cX13_word 133 = .ok (.ireturn, 1) := by decide +kernel
theorem dX13_becomes_0 : decode cX13_becomes 0 = .ok (.aload_n 0, 1) := by decide +kernel
theorem dX13_becomes_1 : decode cX13_becomes 1 = .ok (.iconst 0, 1) := by decide +kernel
theorem dX13_becomes_2 : decode cX13_becomes 2 = .ok (.putfield 1, 3) := by decide +kernel
theorem dX13_becomes_5 : decode cX13_becomes 5 = .ok (.aload_n 0, 1) := by decide +kernel
theorem dX13_becomes_6 : decode cX13_becomes 6 = .ok (.iload_n 1, 1) := by decide +kernel
theorem dX13_becomes_7 : decode cX13_becomes 7 = .ok (.invokevirtual 272, 3) := by decide +kernel
theorem dX13_becomes_10 : decode cX13_becomes 10 = .ok (.ifCond .eq 67, 3) := by decide +kernel
theorem dX13_becomes_13 : decode cX13_becomes 13 = .ok (.iload_n 2, 1) := by decide +kernel
theorem dX13_becomes_14 : decode cX13_becomes 14 = .ok (.iconst 0, 1) := by decide +kernel
theorem dX13_becomes_15 : decode cX13_becomes 15 = .ok (.aload_n 0, 1) := by decide +kernel
theorem dX13_becomes_16 : decode cX13_becomes 16 = .ok (.getfield 33, 3) := by decide +kernel
theorem dX13_becomes_19 : decode cX13_becomes 19 = .ok (.iconst 0, 1) := by decide +kernel
theorem dX13_becomes_20 : decode cX13_becomes 20 = .ok (.iaload, 1) := by decide +kernel
theorem dX13_becomes_21 : decode cX13_becomes 21 = .ok (.iconst 1, 1) := by decide +kernel
theorem dX13_becomes_22 : decode cX13_becomes 22 = .ok (.isub, 1) := by decide +kernel
theorem dX13_becomes_23 : decode cX13_becomes 23 = .ok (.invokestatic 204, 3) := by decide +kernel
theorem dX13_becomes_26 : decode cX13_becomes 26 = .ok (.ifCond .eq 51, 3) := by decide +kernel
theorem dX13_becomes_29 : decode cX13_becomes 29 = .ok (.iload_n 3, 1) := by decide +kernel
theorem dX13_becomes_30 : decode cX13_becomes 30 = .ok (.iconst 0, 1) := by decide +kernel
theorem dX13_becomes_31 : decode cX13_becomes 31 = .ok (.bipush 7, 2) := by decide +kernel
theorem dX13_becomes_33 : decode cX13_becomes 33 = .ok (.invokestatic 204, 3) := by decide +kernel
theorem dX13_becomes_36 : decode cX13_becomes 36 = .ok (.ifCond .eq 41, 3) := by decide +kernel
theorem dX13_becomes_39 : decode cX13_becomes 39 = .ok (.aload_n 0, 1) := by decide +kernel
theorem dX13_becomes_40 : decode cX13_becomes 40 = .ok (.getfield 33, 3) := by decide +kernel
theorem dX13_becomes_43 : decode cX13_becomes 43 = .ok (.bipush 72, 2) := by decide +kernel
theorem dX13_becomes_45 : decode cX13_becomes 45 = .ok (.iconst 5, 1) := by decide +kernel
theorem dX13_becomes_46 : decode cX13_becomes 46 = .ok (.iload_n 1, 1) := by decide +kernel
theorem dX13_becomes_47 : decode cX13_becomes 47 = .ok (.imul, 1) := by decide +kernel
theorem dX13_becomes_48 : decode cX13_becomes 48 = .ok (.iadd, 1) := by decide +kernel
theorem dX13_becomes_49 : decode cX13_becomes 49 = .ok (.iload_n 2, 1) := by decide +kernel
theorem dX13_becomes_50 : decode cX13_becomes 50 = .ok (.iadd, 1) := by decide +kernel
theorem dX13_becomes_51 : decode cX13_becomes 51 = .ok (.iaload, 1) := by decide +kernel
theorem dX13_becomes_52 : decode cX13_becomes 52 = .ok (.iconst 1, 1) := by decide +kernel
theorem dX13_becomes_53 : decode cX13_becomes 53 = .ok (.if_icmp .ne 24, 3) := by decide +kernel
theorem dX13_becomes_56 : decode cX13_becomes 56 = .ok (.aload_n 0, 1) := by decide +kernel
theorem dX13_becomes_57 : decode cX13_becomes 57 = .ok (.getfield 33, 3) := by decide +kernel
theorem dX13_becomes_60 : decode cX13_becomes 60 = .ok (.bipush 112, 2) := by decide +kernel
theorem dX13_becomes_62 : decode cX13_becomes 62 = .ok (.bipush 8, 2) := by decide +kernel
theorem dX13_becomes_64 : decode cX13_becomes 64 = .ok (.iconst 5, 1) := by decide +kernel
theorem dX13_becomes_65 : decode cX13_becomes 65 = .ok (.iload_n 1, 1) := by decide +kernel
theorem dX13_becomes_66 : decode cX13_becomes 66 = .ok (.imul, 1) := by decide +kernel
theorem dX13_becomes_67 : decode cX13_becomes 67 = .ok (.iload_n 2, 1) := by decide +kernel
theorem dX13_becomes_68 : decode cX13_becomes 68 = .ok (.iadd, 1) := by decide +kernel
theorem dX13_becomes_69 : decode cX13_becomes 69 = .ok (.imul, 1) := by decide +kernel
theorem dX13_becomes_70 : decode cX13_becomes 70 = .ok (.iadd, 1) := by decide +kernel
theorem dX13_becomes_71 : decode cX13_becomes 71 = .ok (.iload_n 3, 1) := by decide +kernel
theorem dX13_becomes_72 : decode cX13_becomes 72 = .ok (.iadd, 1) := by decide +kernel
theorem dX13_becomes_73 : decode cX13_becomes 73 = .ok (.iaload, 1) := by decide +kernel
theorem dX13_becomes_74 : decode cX13_becomes 74 = .ok (.goto 4, 3) := by decide +kernel
theorem dX13_becomes_77 : decode cX13_becomes 77 = .ok (.iconst (-1), 1) := by decide +kernel
theorem dX13_becomes_78 : decode cX13_becomes 78 = .ok (.ireturn, 1) := by decide +kernel
