theorem dX1_init_0 : decode cX1_init 0 = .ok (.aload_n 0, 1) := by decide +kernel
theorem dX1_init_1 : decode cX1_init 1 = .ok (.invokespecial 1, 3) := by decide +kernel
theorem dX1_init_4 : decode cX1_init 4 = .ok (.aload_n 0, 1) := by decide +kernel
theorem dX1_init_5 : decode cX1_init 5 = .ok (.iconst 3, 1) := by decide +kernel
theorem dX1_init_6 : decode cX1_init 6 = .ok (.putfield 7, 3) := by decide +kernel
theorem dX1_init_9 : decode cX1_init 9 = .ok (.aload_n 0, 1) := by decide +kernel
theorem dX1_init_10 : decode cX1_init 10 = .ok (.iconst 1, 1) := by decide +kernel
theorem dX1_init_11 : decode cX1_init 11 = .ok (.putfield 13, 3) := by decide +kernel
theorem dX1_init_14 : decode cX1_init 14 = .ok (.return_, 1) := by decide +kernel
theorem dX1_tell_0 : decode cX1_tell 0 = .ok (.aload_n 0, 1) := by decide +kernel
theorem dX1_tell_1 : decode cX1_tell 1 = .ok (.iload_n 1, 1) := by decide +kernel
theorem dX1_tell_2 : decode cX1_tell 2 = .ok (.putfield 7, 3) := by decide +kernel
theorem dX1_tell_5 : decode cX1_tell 5 = .ok (.aload_n 0, 1) := by decide +kernel
theorem dX1_tell_6 : decode cX1_tell 6 = .ok (.iload_n 2, 1) := by decide +kernel
theorem dX1_tell_7 : decode cX1_tell 7 = .ok (.putfield 13, 3) := by decide +kernel
theorem dX1_tell_10 : decode cX1_tell 10 = .ok (.return_, 1) := by decide +kernel
theorem dX1_strikes_0 : decode cX1_strikes 0 = .ok (.iload_n 1, 1) := by decide +kernel
theorem dX1_strikes_1 : decode cX1_strikes 1 = .ok (.ifCond .le 34, 3) := by decide +kernel
theorem dX1_strikes_4 : decode cX1_strikes 4 = .ok (.aload_n 0, 1) := by decide +kernel
theorem dX1_strikes_5 : decode cX1_strikes 5 = .ok (.getfield 7, 3) := by decide +kernel
theorem dX1_strikes_8 : decode cX1_strikes 8 = .ok (.ifCond .le 27, 3) := by decide +kernel
theorem dX1_strikes_11 : decode cX1_strikes 11 = .ok (.iload_n 2, 1) := by decide +kernel
theorem dX1_strikes_12 : decode cX1_strikes 12 = .ok (.iload_n 1, 1) := by decide +kernel
theorem dX1_strikes_13 : decode cX1_strikes 13 = .ok (.if_icmp .lt 22, 3) := by decide +kernel
theorem dX1_strikes_16 : decode cX1_strikes 16 = .ok (.iload_n 2, 1) := by decide +kernel
theorem dX1_strikes_17 : decode cX1_strikes 17 = .ok (.iload_n 1, 1) := by decide +kernel
theorem dX1_strikes_18 : decode cX1_strikes 18 = .ok (.isub, 1) := by decide +kernel
theorem dX1_strikes_19 : decode cX1_strikes 19 = .ok (.aload_n 0, 1) := by decide +kernel
theorem dX1_strikes_20 : decode cX1_strikes 20 = .ok (.getfield 7, 3) := by decide +kernel
theorem dX1_strikes_23 : decode cX1_strikes 23 = .ok (.irem, 1) := by decide +kernel
theorem dX1_strikes_24 : decode cX1_strikes 24 = .ok (.aload_n 0, 1) := by decide +kernel
theorem dX1_strikes_25 : decode cX1_strikes 25 = .ok (.getfield 13, 3) := by decide +kernel
theorem dX1_strikes_28 : decode cX1_strikes 28 = .ok (.if_icmp .ge 7, 3) := by decide +kernel
theorem dX1_strikes_31 : decode cX1_strikes 31 = .ok (.iconst 1, 1) := by decide +kernel
theorem dX1_strikes_32 : decode cX1_strikes 32 = .ok (.goto 4, 3) := by decide +kernel
theorem dX1_strikes_35 : decode cX1_strikes 35 = .ok (.iconst 0, 1) := by decide +kernel
theorem dX1_strikes_36 : decode cX1_strikes 36 = .ok (.ireturn, 1) := by decide +kernel
theorem dX1_leftOf_0 : decode cX1_leftOf 0 = .ok (.iconst 0, 1) := by decide +kernel
theorem dX1_leftOf_1 : decode cX1_leftOf 1 = .ok (.istore_n 3, 1) := by decide +kernel
theorem dX1_leftOf_2 : decode cX1_leftOf 2 = .ok (.iconst 1, 1) := by decide +kernel
theorem dX1_leftOf_3 : decode cX1_leftOf 3 = .ok (.istore 4, 2) := by decide +kernel
theorem dX1_leftOf_5 : decode cX1_leftOf 5 = .ok (.iload 4, 2) := by decide +kernel
theorem dX1_leftOf_7 : decode cX1_leftOf 7 = .ok (.iload_n 1, 1) := by decide +kernel
theorem dX1_leftOf_8 : decode cX1_leftOf 8 = .ok (.if_icmp .gt 22, 3) := by decide +kernel
theorem dX1_leftOf_11 : decode cX1_leftOf 11 = .ok (.aload_n 0, 1) := by decide +kernel
theorem dX1_leftOf_12 : decode cX1_leftOf 12 = .ok (.iload_n 2, 1) := by decide +kernel
theorem dX1_leftOf_13 : decode cX1_leftOf 13 = .ok (.iload 4, 2) := by decide +kernel
theorem dX1_leftOf_15 : decode cX1_leftOf 15 = .ok (.invokevirtual 16, 3) := by decide +kernel
theorem dX1_leftOf_18 : decode cX1_leftOf 18 = .ok (.ifCond .ne 6, 3) := by decide +kernel
theorem dX1_leftOf_21 : decode cX1_leftOf 21 = .ok (.iinc 3 1, 3) := by decide +kernel
theorem dX1_leftOf_24 : decode cX1_leftOf 24 = .ok (.iinc 4 1, 3) := by decide +kernel
theorem dX1_leftOf_27 : decode cX1_leftOf 27 = .ok (.goto (-22), 3) := by decide +kernel
theorem dX1_leftOf_30 : decode cX1_leftOf 30 = .ok (.iload_n 3, 1) := by decide +kernel
theorem dX1_leftOf_31 : decode cX1_leftOf 31 = .ok (.ireturn, 1) := by decide +kernel
theorem dX2_init_0 : decode cX2_init 0 = .ok (.aload_n 0, 1) := by decide +kernel
theorem dX2_init_1 : decode cX2_init 1 = .ok (.invokespecial 3, 3) := by decide +kernel
theorem dX2_init_4 : decode cX2_init 4 = .ok (.aload_n 0, 1) := by decide +kernel
theorem dX2_init_5 : decode cX2_init 5 = .ok (.new 9, 3) := by decide +kernel
theorem dX2_init_8 : decode cX2_init 8 = .ok (.dup, 1) := by decide +kernel
theorem dX2_init_9 : decode cX2_init 9 = .ok (.invokespecial 11, 3) := by decide +kernel
theorem dX2_init_12 : decode cX2_init 12 = .ok (.putfield 12, 3) := by decide +kernel
theorem dX2_init_15 : decode cX2_init 15 = .ok (.aload_n 0, 1) := by decide +kernel
theorem dX2_init_16 : decode cX2_init 16 = .ok (.new 18, 3) := by decide +kernel
theorem dX2_init_19 : decode cX2_init 19 = .ok (.dup, 1) := by decide +kernel
theorem dX2_init_20 : decode cX2_init 20 = .ok (.invokespecial 20, 3) := by decide +kernel
theorem dX2_init_23 : decode cX2_init 23 = .ok (.putfield 21, 3) := by decide +kernel
theorem dX2_init_26 : decode cX2_init 26 = .ok (.aload_n 0, 1) := by decide +kernel
theorem dX2_init_27 : decode cX2_init 27 = .ok (.new 25, 3) := by decide +kernel
theorem dX2_init_30 : decode cX2_init 30 = .ok (.dup, 1) := by decide +kernel
theorem dX2_init_31 : decode cX2_init 31 = .ok (.iconst 5, 1) := by decide +kernel
theorem dX2_init_32 : decode cX2_init 32 = .ok (.invokespecial 27, 3) := by decide +kernel
theorem dX2_init_35 : decode cX2_init 35 = .ok (.putfield 30, 3) := by decide +kernel
theorem dX2_init_38 : decode cX2_init 38 = .ok (.return_, 1) := by decide +kernel
theorem dX2_want_0 : decode cX2_want 0 = .ok (.iload_n 1, 1) := by decide +kernel
theorem dX2_want_1 : decode cX2_want 1 = .ok (.ifCond .lt 19, 3) := by decide +kernel
theorem dX2_want_4 : decode cX2_want 4 = .ok (.iload_n 1, 1) := by decide +kernel
theorem dX2_want_5 : decode cX2_want 5 = .ok (.bipush 6, 2) := by decide +kernel
theorem dX2_want_7 : decode cX2_want 7 = .ok (.if_icmp .ge 13, 3) := by decide +kernel
theorem dX2_want_10 : decode cX2_want 10 = .ok (.aload_n 0, 1) := by decide +kernel
theorem dX2_want_11 : decode cX2_want 11 = .ok (.getfield 12, 3) := by decide +kernel
theorem dX2_want_14 : decode cX2_want 14 = .ok (.getfield 34, 3) := by decide +kernel
theorem dX2_want_17 : decode cX2_want 17 = .ok (.iload_n 1, 1) := by decide +kernel
theorem dX2_want_18 : decode cX2_want 18 = .ok (.iload_n 2, 1) := by decide +kernel
theorem dX2_want_19 : decode cX2_want 19 = .ok (.iastore, 1) := by decide +kernel
theorem dX2_want_20 : decode cX2_want 20 = .ok (.return_, 1) := by decide +kernel
theorem dX2_wantByAll_0 : decode cX2_wantByAll 0 = .ok (.aload_n 0, 1) := by decide +kernel
theorem dX2_wantByAll_1 : decode cX2_wantByAll 1 = .ok (.getfield 12, 3) := by decide +kernel
theorem dX2_wantByAll_4 : decode cX2_wantByAll 4 = .ok (.getfield 34, 3) := by decide +kernel
theorem dX2_wantByAll_7 : decode cX2_wantByAll 7 = .ok (.iload_n 2, 1) := by decide +kernel
theorem dX2_wantByAll_8 : decode cX2_wantByAll 8 = .ok (.invokestatic 38, 3) := by decide +kernel
theorem dX2_wantByAll_11 : decode cX2_wantByAll 11 = .ok (.aload_n 0, 1) := by decide +kernel
theorem dX2_wantByAll_12 : decode cX2_wantByAll 12 = .ok (.getfield 12, 3) := by decide +kernel
theorem dX2_wantByAll_15 : decode cX2_wantByAll 15 = .ok (.getfield 34, 3) := by decide +kernel
theorem dX2_wantByAll_18 : decode cX2_wantByAll 18 = .ok (.iconst 0, 1) := by decide +kernel
theorem dX2_wantByAll_19 : decode cX2_wantByAll 19 = .ok (.iload_n 1, 1) := by decide +kernel
theorem dX2_wantByAll_20 : decode cX2_wantByAll 20 = .ok (.iastore, 1) := by decide +kernel
theorem dX2_wantByAll_21 : decode cX2_wantByAll 21 = .ok (.return_, 1) := by decide +kernel
theorem dX2_wantBeats_0 : decode cX2_wantBeats 0 = .ok (.aload_n 0, 1) := by decide +kernel
theorem dX2_wantBeats_1 : decode cX2_wantBeats 1 = .ok (.getfield 12, 3) := by decide +kernel
theorem dX2_wantBeats_4 : decode cX2_wantBeats 4 = .ok (.iload_n 1, 1) := by decide +kernel
theorem dX2_wantBeats_5 : decode cX2_wantBeats 5 = .ok (.putfield 44, 3) := by decide +kernel
theorem dX2_wantBeats_8 : decode cX2_wantBeats 8 = .ok (.return_, 1) := by decide +kernel
theorem dX2_foundRow_0 : decode cX2_foundRow 0 = .ok (.aload_n 0, 1) := by decide +kernel
theorem dX2_foundRow_1 : decode cX2_foundRow 1 = .ok (.getfield 12, 3) := by decide +kernel
theorem dX2_foundRow_4 : decode cX2_foundRow 4 = .ok (.getfield 48, 3) := by decide +kernel
theorem dX2_foundRow_7 : decode cX2_foundRow 7 = .ok (.areturn, 1) := by decide +kernel
theorem dX2_seekShortestBy_0 : decode cX2_seekShortestBy 0 = .ok (.aload_n 0, 1) := by decide +kernel
theorem dX2_seekShortestBy_1 : decode cX2_seekShortestBy 1 = .ok (.getfield 21, 3) := by decide +kernel
theorem dX2_seekShortestBy_4 : decode cX2_seekShortestBy 4 = .ok (.iload_n 2, 1) := by decide +kernel
theorem dX2_seekShortestBy_5 : decode cX2_seekShortestBy 5 = .ok (.iload_n 3, 1) := by decide +kernel
theorem dX2_seekShortestBy_6 : decode cX2_seekShortestBy 6 = .ok (.invokevirtual 51, 3) := by decide +kernel
theorem dX2_seekShortestBy_9 : decode cX2_seekShortestBy 9 = .ok (.aload_n 0, 1) := by decide +kernel
theorem dX2_seekShortestBy_10 : decode cX2_seekShortestBy 10 = .ok (.aload_n 1, 1) := by decide +kernel
theorem dX2_seekShortestBy_11 : decode cX2_seekShortestBy 11 = .ok (.aload_n 0, 1) := by decide +kernel
theorem dX2_seekShortestBy_12 : decode cX2_seekShortestBy 12 = .ok (.getfield 21, 3) := by decide +kernel
theorem dX2_seekShortestBy_15 : decode cX2_seekShortestBy 15 = .ok (.iload 4, 2) := by decide +kernel
theorem dX2_seekShortestBy_17 : decode cX2_seekShortestBy 17 = .ok (.invokevirtual 55, 3) := by decide +kernel
theorem dX2_seekShortestBy_20 : decode cX2_seekShortestBy 20 = .ok (.ireturn, 1) := by decide +kernel
theorem dX2_seekShortest_0 : decode cX2_seekShortest 0 = .ok (.aload_n 0, 1) := by decide +kernel
theorem dX2_seekShortest_1 : decode cX2_seekShortest 1 = .ok (.aload_n 1, 1) := by decide +kernel
theorem dX2_seekShortest_2 : decode cX2_seekShortest 2 = .ok (.putfield 59, 3) := by decide +kernel
theorem dX2_seekShortest_5 : decode cX2_seekShortest 5 = .ok (.aload_n 0, 1) := by decide +kernel
theorem dX2_seekShortest_6 : decode cX2_seekShortest 6 = .ok (.getfield 12, 3) := by decide +kernel
theorem dX2_seekShortest_9 : decode cX2_seekShortest 9 = .ok (.aload_n 1, 1) := by decide +kernel
theorem dX2_seekShortest_10 : decode cX2_seekShortest 10 = .ok (.aload_n 2, 1) := by decide +kernel
theorem dX2_seekShortest_11 : decode cX2_seekShortest 11 = .ok (.invokevirtual 63, 3) := by decide +kernel
theorem dX2_seekShortest_14 : decode cX2_seekShortest 14 = .ok (.iconst 1, 1) := by decide +kernel
theorem dX2_seekShortest_15 : decode cX2_seekShortest 15 = .ok (.istore 4, 2) := by decide +kernel
theorem dX2_seekShortest_17 : decode cX2_seekShortest 17 = .ok (.iload 4, 2) := by decide +kernel
theorem dX2_seekShortest_19 : decode cX2_seekShortest 19 = .ok (.iload_n 3, 1) := by decide +kernel
theorem dX2_seekShortest_20 : decode cX2_seekShortest 20 = .ok (.if_icmp .gt 41, 3) := by decide +kernel
theorem dX2_seekShortest_23 : decode cX2_seekShortest 23 = .ok (.aload_n 0, 1) := by decide +kernel
theorem dX2_seekShortest_24 : decode cX2_seekShortest 24 = .ok (.getfield 12, 3) := by decide +kernel
theorem dX2_seekShortest_27 : decode cX2_seekShortest 27 = .ok (.iload 4, 2) := by decide +kernel
theorem dX2_seekShortest_29 : decode cX2_seekShortest 29 = .ok (.putfield 67, 3) := by decide +kernel
theorem dX2_seekShortest_32 : decode cX2_seekShortest 32 = .ok (.aload_n 0, 1) := by decide +kernel
theorem dX2_seekShortest_33 : decode cX2_seekShortest 33 = .ok (.iconst 0, 1) := by decide +kernel
theorem dX2_seekShortest_34 : decode cX2_seekShortest 34 = .ok (.invokevirtual 70, 3) := by decide +kernel
theorem dX2_seekShortest_37 : decode cX2_seekShortest 37 = .ok (.ifCond .eq 18, 3) := by decide +kernel
theorem dX2_seekShortest_40 : decode cX2_seekShortest 40 = .ok (.aload_n 0, 1) := by decide +kernel
theorem dX2_seekShortest_41 : decode cX2_seekShortest 41 = .ok (.getfield 12, 3) := by decide +kernel
theorem dX2_seekShortest_44 : decode cX2_seekShortest 44 = .ok (.getfield 48, 3) := by decide +kernel
theorem dX2_seekShortest_47 : decode cX2_seekShortest 47 = .ok (.iload 4, 2) := by decide +kernel
theorem dX2_seekShortest_49 : decode cX2_seekShortest 49 = .ok (.putfield 74, 3) := by decide +kernel
theorem dX2_seekShortest_52 : decode cX2_seekShortest 52 = .ok (.iload 4, 2) := by decide +kernel
theorem dX2_seekShortest_54 : decode cX2_seekShortest 54 = .ok (.ireturn, 1) := by decide +kernel
theorem dX2_seekShortest_55 : decode cX2_seekShortest 55 = .ok (.iinc 4 1, 3) := by decide +kernel
theorem dX2_seekShortest_58 : decode cX2_seekShortest 58 = .ok (.goto (-41), 3) := by decide +kernel
theorem dX2_seekShortest_61 : decode cX2_seekShortest 61 = .ok (.iconst (-1), 1) := by decide +kernel
theorem dX2_seekShortest_62 : decode cX2_seekShortest 62 = .ok (.ireturn, 1) := by decide +kernel
theorem dX2_seek_0 : decode cX2_seek 0 = .ok (.iload_n 1, 1) := by decide +kernel
theorem dX2_seek_1 : decode cX2_seek 1 = .ok (.aload_n 0, 1) := by decide +kernel
theorem dX2_seek_2 : decode cX2_seek 2 = .ok (.getfield 12, 3) := by decide +kernel
theorem dX2_seek_5 : decode cX2_seek 5 = .ok (.getfield 67, 3) := by decide +kernel
theorem dX2_seek_8 : decode cX2_seek 8 = .ok (.if_icmp .lt 5, 3) := by decide +kernel
theorem dX2_seek_11 : decode cX2_seek 11 = .ok (.iconst 1, 1) := by decide +kernel
theorem dX2_seek_12 : decode cX2_seek 12 = .ok (.ireturn, 1) := by decide +kernel
theorem dX2_seek_13 : decode cX2_seek 13 = .ok (.iconst 0, 1) := by decide +kernel
theorem dX2_seek_14 : decode cX2_seek 14 = .ok (.istore_n 2, 1) := by decide +kernel
theorem dX2_seek_15 : decode cX2_seek 15 = .ok (.iload_n 2, 1) := by decide +kernel
theorem dX2_seek_16 : decode cX2_seek 16 = .ok (.aload_n 0, 1) := by decide +kernel
theorem dX2_seek_17 : decode cX2_seek 17 = .ok (.getfield 59, 3) := by decide +kernel
theorem dX2_seek_20 : decode cX2_seek 20 = .ok (.getfield 77, 3) := by decide +kernel
theorem dX2_seek_23 : decode cX2_seek 23 = .ok (.if_icmp .ge 33, 3) := by decide +kernel
theorem dX2_seek_26 : decode cX2_seek 26 = .ok (.aload_n 0, 1) := by decide +kernel
theorem dX2_seek_27 : decode cX2_seek 27 = .ok (.getfield 12, 3) := by decide +kernel
theorem dX2_seek_30 : decode cX2_seek 30 = .ok (.iload_n 1, 1) := by decide +kernel
theorem dX2_seek_31 : decode cX2_seek 31 = .ok (.iload_n 2, 1) := by decide +kernel
theorem dX2_seek_32 : decode cX2_seek 32 = .ok (.invokevirtual 82, 3) := by decide +kernel
theorem dX2_seek_35 : decode cX2_seek 35 = .ok (.ifCond .eq 15, 3) := by decide +kernel
theorem dX2_seek_38 : decode cX2_seek 38 = .ok (.aload_n 0, 1) := by decide +kernel
theorem dX2_seek_39 : decode cX2_seek 39 = .ok (.iload_n 1, 1) := by decide +kernel
theorem dX2_seek_40 : decode cX2_seek 40 = .ok (.iconst 1, 1) := by decide +kernel
theorem dX2_seek_41 : decode cX2_seek 41 = .ok (.iadd, 1) := by decide +kernel
theorem dX2_seek_42 : decode cX2_seek 42 = .ok (.invokevirtual 70, 3) := by decide +kernel
theorem dX2_seek_45 : decode cX2_seek 45 = .ok (.ifCond .eq 5, 3) := by decide +kernel
theorem dX2_seek_48 : decode cX2_seek 48 = .ok (.iconst 1, 1) := by decide +kernel
theorem dX2_seek_49 : decode cX2_seek 49 = .ok (.ireturn, 1) := by decide +kernel
theorem dX2_seek_50 : decode cX2_seek 50 = .ok (.iinc 2 1, 3) := by decide +kernel
theorem dX2_seek_53 : decode cX2_seek 53 = .ok (.goto (-38), 3) := by decide +kernel
theorem dX2_seek_56 : decode cX2_seek 56 = .ok (.iconst 0, 1) := by decide +kernel
theorem dX2_seek_57 : decode cX2_seek 57 = .ok (.ireturn, 1) := by decide +kernel
theorem dX2_seekCheapest_0 : decode cX2_seekCheapest 0 = .ok (.aload_n 0, 1) := by decide +kernel
theorem dX2_seekCheapest_1 : decode cX2_seekCheapest 1 = .ok (.aload_n 1, 1) := by decide +kernel
theorem dX2_seekCheapest_2 : decode cX2_seekCheapest 2 = .ok (.putfield 59, 3) := by decide +kernel
theorem dX2_seekCheapest_5 : decode cX2_seekCheapest 5 = .ok (.aload_n 0, 1) := by decide +kernel
theorem dX2_seekCheapest_6 : decode cX2_seekCheapest 6 = .ok (.getfield 12, 3) := by decide +kernel
theorem dX2_seekCheapest_9 : decode cX2_seekCheapest 9 = .ok (.aload_n 1, 1) := by decide +kernel
theorem dX2_seekCheapest_10 : decode cX2_seekCheapest 10 = .ok (.aload_n 1, 1) := by decide +kernel
theorem dX2_seekCheapest_11 : decode cX2_seekCheapest 11 = .ok (.getfield 86, 3) := by decide +kernel
theorem dX2_seekCheapest_14 : decode cX2_seekCheapest 14 = .ok (.invokevirtual 63, 3) := by decide +kernel
theorem dX2_seekCheapest_17 : decode cX2_seekCheapest 17 = .ok (.aload_n 0, 1) := by decide +kernel
theorem dX2_seekCheapest_18 : decode cX2_seekCheapest 18 = .ok (.sipush 496, 3) := by decide +kernel
theorem dX2_seekCheapest_21 : decode cX2_seekCheapest 21 = .ok (.putfield 89, 3) := by decide +kernel
theorem dX2_seekCheapest_24 : decode cX2_seekCheapest 24 = .ok (.iconst 1, 1) := by decide +kernel
theorem dX2_seekCheapest_25 : decode cX2_seekCheapest 25 = .ok (.istore_n 3, 1) := by decide +kernel
theorem dX2_seekCheapest_26 : decode cX2_seekCheapest 26 = .ok (.iload_n 3, 1) := by decide +kernel
theorem dX2_seekCheapest_27 : decode cX2_seekCheapest 27 = .ok (.iload_n 2, 1) := by decide +kernel
theorem dX2_seekCheapest_28 : decode cX2_seekCheapest 28 = .ok (.if_icmp .gt 23, 3) := by decide +kernel
theorem dX2_seekCheapest_31 : decode cX2_seekCheapest 31 = .ok (.aload_n 0, 1) := by decide +kernel
theorem dX2_seekCheapest_32 : decode cX2_seekCheapest 32 = .ok (.getfield 12, 3) := by decide +kernel
theorem dX2_seekCheapest_35 : decode cX2_seekCheapest 35 = .ok (.iload_n 3, 1) := by decide +kernel
theorem dX2_seekCheapest_36 : decode cX2_seekCheapest 36 = .ok (.putfield 67, 3) := by decide +kernel
theorem dX2_seekCheapest_39 : decode cX2_seekCheapest 39 = .ok (.aload_n 0, 1) := by decide +kernel
theorem dX2_seekCheapest_40 : decode cX2_seekCheapest 40 = .ok (.iconst 0, 1) := by decide +kernel
theorem dX2_seekCheapest_41 : decode cX2_seekCheapest 41 = .ok (.iconst 0, 1) := by decide +kernel
theorem dX2_seekCheapest_42 : decode cX2_seekCheapest 42 = .ok (.invokevirtual 92, 3) := by decide +kernel
theorem dX2_seekCheapest_45 : decode cX2_seekCheapest 45 = .ok (.iinc 3 1, 3) := by decide +kernel
theorem dX2_seekCheapest_48 : decode cX2_seekCheapest 48 = .ok (.goto (-22), 3) := by decide +kernel
theorem dX2_seekCheapest_51 : decode cX2_seekCheapest 51 = .ok (.aload_n 0, 1) := by decide +kernel
theorem dX2_seekCheapest_52 : decode cX2_seekCheapest 52 = .ok (.getfield 89, 3) := by decide +kernel
theorem dX2_seekCheapest_55 : decode cX2_seekCheapest 55 = .ok (.sipush 496, 3) := by decide +kernel
theorem dX2_seekCheapest_58 : decode cX2_seekCheapest 58 = .ok (.if_icmp .ne 7, 3) := by decide +kernel
theorem dX2_seekCheapest_61 : decode cX2_seekCheapest 61 = .ok (.iconst (-1), 1) := by decide +kernel
theorem dX2_seekCheapest_62 : decode cX2_seekCheapest 62 = .ok (.goto 7, 3) := by decide +kernel
theorem dX2_seekCheapest_65 : decode cX2_seekCheapest 65 = .ok (.aload_n 0, 1) := by decide +kernel
theorem dX2_seekCheapest_66 : decode cX2_seekCheapest 66 = .ok (.getfield 89, 3) := by decide +kernel
theorem dX2_seekCheapest_69 : decode cX2_seekCheapest 69 = .ok (.ireturn, 1) := by decide +kernel
theorem dX2_seekCheaper_0 : decode cX2_seekCheaper 0 = .ok (.iload_n 2, 1) := by decide +kernel
theorem dX2_seekCheaper_1 : decode cX2_seekCheaper 1 = .ok (.aload_n 0, 1) := by decide +kernel
theorem dX2_seekCheaper_2 : decode cX2_seekCheaper 2 = .ok (.getfield 89, 3) := by decide +kernel
theorem dX2_seekCheaper_5 : decode cX2_seekCheaper 5 = .ok (.if_icmp .lt 4, 3) := by decide +kernel
theorem dX2_seekCheaper_8 : decode cX2_seekCheaper 8 = .ok (.return_, 1) := by decide +kernel
theorem dX2_seekCheaper_9 : decode cX2_seekCheaper 9 = .ok (.iload_n 1, 1) := by decide +kernel
theorem dX2_seekCheaper_10 : decode cX2_seekCheaper 10 = .ok (.aload_n 0, 1) := by decide +kernel
theorem dX2_seekCheaper_11 : decode cX2_seekCheaper 11 = .ok (.getfield 12, 3) := by decide +kernel
theorem dX2_seekCheaper_14 : decode cX2_seekCheaper 14 = .ok (.getfield 67, 3) := by decide +kernel
theorem dX2_seekCheaper_17 : decode cX2_seekCheaper 17 = .ok (.if_icmp .lt 34, 3) := by decide +kernel
theorem dX2_seekCheaper_20 : decode cX2_seekCheaper 20 = .ok (.aload_n 0, 1) := by decide +kernel
theorem dX2_seekCheaper_21 : decode cX2_seekCheaper 21 = .ok (.iload_n 2, 1) := by decide +kernel
theorem dX2_seekCheaper_22 : decode cX2_seekCheaper 22 = .ok (.putfield 89, 3) := by decide +kernel
theorem dX2_seekCheaper_25 : decode cX2_seekCheaper 25 = .ok (.aload_n 0, 1) := by decide +kernel
theorem dX2_seekCheaper_26 : decode cX2_seekCheaper 26 = .ok (.getfield 12, 3) := by decide +kernel
theorem dX2_seekCheaper_29 : decode cX2_seekCheaper 29 = .ok (.getfield 48, 3) := by decide +kernel
theorem dX2_seekCheaper_32 : decode cX2_seekCheaper 32 = .ok (.iload_n 1, 1) := by decide +kernel
theorem dX2_seekCheaper_33 : decode cX2_seekCheaper 33 = .ok (.putfield 74, 3) := by decide +kernel
theorem dX2_seekCheaper_36 : decode cX2_seekCheaper 36 = .ok (.aload_n 0, 1) := by decide +kernel
theorem dX2_seekCheaper_37 : decode cX2_seekCheaper 37 = .ok (.getfield 30, 3) := by decide +kernel
theorem dX2_seekCheaper_40 : decode cX2_seekCheaper 40 = .ok (.aload_n 0, 1) := by decide +kernel
theorem dX2_seekCheaper_41 : decode cX2_seekCheaper 41 = .ok (.getfield 12, 3) := by decide +kernel
theorem dX2_seekCheaper_44 : decode cX2_seekCheaper 44 = .ok (.getfield 48, 3) := by decide +kernel
theorem dX2_seekCheaper_47 : decode cX2_seekCheaper 47 = .ok (.invokevirtual 95, 3) := by decide +kernel
theorem dX2_seekCheaper_50 : decode cX2_seekCheaper 50 = .ok (.return_, 1) := by decide +kernel
theorem dX2_seekCheaper_51 : decode cX2_seekCheaper 51 = .ok (.iconst 0, 1) := by decide +kernel
theorem dX2_seekCheaper_52 : decode cX2_seekCheaper 52 = .ok (.istore_n 3, 1) := by decide +kernel
theorem dX2_seekCheaper_53 : decode cX2_seekCheaper 53 = .ok (.iload_n 3, 1) := by decide +kernel
theorem dX2_seekCheaper_54 : decode cX2_seekCheaper 54 = .ok (.aload_n 0, 1) := by decide +kernel
theorem dX2_seekCheaper_55 : decode cX2_seekCheaper 55 = .ok (.getfield 59, 3) := by decide +kernel
theorem dX2_seekCheaper_58 : decode cX2_seekCheaper 58 = .ok (.getfield 77, 3) := by decide +kernel
theorem dX2_seekCheaper_61 : decode cX2_seekCheaper 61 = .ok (.if_icmp .ge 39, 3) := by decide +kernel
theorem dX2_seekCheaper_64 : decode cX2_seekCheaper 64 = .ok (.aload_n 0, 1) := by decide +kernel
theorem dX2_seekCheaper_65 : decode cX2_seekCheaper 65 = .ok (.getfield 12, 3) := by decide +kernel
theorem dX2_seekCheaper_68 : decode cX2_seekCheaper 68 = .ok (.iload_n 1, 1) := by decide +kernel
theorem dX2_seekCheaper_69 : decode cX2_seekCheaper 69 = .ok (.iload_n 3, 1) := by decide +kernel
theorem dX2_seekCheaper_70 : decode cX2_seekCheaper 70 = .ok (.invokevirtual 82, 3) := by decide +kernel
theorem dX2_seekCheaper_73 : decode cX2_seekCheaper 73 = .ok (.ifCond .eq 21, 3) := by decide +kernel
theorem dX2_seekCheaper_76 : decode cX2_seekCheaper 76 = .ok (.aload_n 0, 1) := by decide +kernel
theorem dX2_seekCheaper_77 : decode cX2_seekCheaper 77 = .ok (.iload_n 1, 1) := by decide +kernel
theorem dX2_seekCheaper_78 : decode cX2_seekCheaper 78 = .ok (.iconst 1, 1) := by decide +kernel
theorem dX2_seekCheaper_79 : decode cX2_seekCheaper 79 = .ok (.iadd, 1) := by decide +kernel
theorem dX2_seekCheaper_80 : decode cX2_seekCheaper 80 = .ok (.iload_n 2, 1) := by decide +kernel
theorem dX2_seekCheaper_81 : decode cX2_seekCheaper 81 = .ok (.aload_n 0, 1) := by decide +kernel
theorem dX2_seekCheaper_82 : decode cX2_seekCheaper 82 = .ok (.getfield 59, 3) := by decide +kernel
theorem dX2_seekCheaper_85 : decode cX2_seekCheaper 85 = .ok (.getfield 99, 3) := by decide +kernel
theorem dX2_seekCheaper_88 : decode cX2_seekCheaper 88 = .ok (.iload_n 3, 1) := by decide +kernel
theorem dX2_seekCheaper_89 : decode cX2_seekCheaper 89 = .ok (.iaload, 1) := by decide +kernel
theorem dX2_seekCheaper_90 : decode cX2_seekCheaper 90 = .ok (.iadd, 1) := by decide +kernel
theorem dX2_seekCheaper_91 : decode cX2_seekCheaper 91 = .ok (.invokevirtual 92, 3) := by decide +kernel
theorem dX2_seekCheaper_94 : decode cX2_seekCheaper 94 = .ok (.iinc 3 1, 3) := by decide +kernel
theorem dX2_seekCheaper_97 : decode cX2_seekCheaper 97 = .ok (.goto (-44), 3) := by decide +kernel
theorem dX2_seekCheaper_100 : decode cX2_seekCheaper 100 = .ok (.return_, 1) := by decide +kernel
theorem dX2_collectSafe_0 : decode cX2_collectSafe 0 = .ok (.aload_n 0, 1) := by decide +kernel
theorem dX2_collectSafe_1 : decode cX2_collectSafe 1 = .ok (.aload_n 1, 1) := by decide +kernel
theorem dX2_collectSafe_2 : decode cX2_collectSafe 2 = .ok (.putfield 59, 3) := by decide +kernel
theorem dX2_collectSafe_5 : decode cX2_collectSafe 5 = .ok (.aload_n 0, 1) := by decide +kernel
theorem dX2_collectSafe_6 : decode cX2_collectSafe 6 = .ok (.bipush 9, 2) := by decide +kernel
theorem dX2_collectSafe_8 : decode cX2_collectSafe 8 = .ok (.bipush 10, 2) := by decide +kernel
theorem dX2_collectSafe_10 : decode cX2_collectSafe 10 = .ok (.invokevirtual 102, 3) := by decide +kernel
theorem dX2_collectSafe_13 : decode cX2_collectSafe 13 = .ok (.aload_n 0, 1) := by decide +kernel
theorem dX2_collectSafe_14 : decode cX2_collectSafe 14 = .ok (.getfield 12, 3) := by decide +kernel
theorem dX2_collectSafe_17 : decode cX2_collectSafe 17 = .ok (.aload_n 1, 1) := by decide +kernel
theorem dX2_collectSafe_18 : decode cX2_collectSafe 18 = .ok (.aload_n 1, 1) := by decide +kernel
theorem dX2_collectSafe_19 : decode cX2_collectSafe 19 = .ok (.getfield 86, 3) := by decide +kernel
theorem dX2_collectSafe_22 : decode cX2_collectSafe 22 = .ok (.invokevirtual 63, 3) := by decide +kernel
theorem dX2_collectSafe_25 : decode cX2_collectSafe 25 = .ok (.aload_n 0, 1) := by decide +kernel
theorem dX2_collectSafe_26 : decode cX2_collectSafe 26 = .ok (.getfield 12, 3) := by decide +kernel
theorem dX2_collectSafe_29 : decode cX2_collectSafe 29 = .ok (.iconst (-1), 1) := by decide +kernel
theorem dX2_collectSafe_30 : decode cX2_collectSafe 30 = .ok (.putfield 67, 3) := by decide +kernel
theorem dX2_collectSafe_33 : decode cX2_collectSafe 33 = .ok (.aload_n 0, 1) := by decide +kernel
theorem dX2_collectSafe_34 : decode cX2_collectSafe 34 = .ok (.iconst 0, 1) := by decide +kernel
theorem dX2_collectSafe_35 : decode cX2_collectSafe 35 = .ok (.iload_n 2, 1) := by decide +kernel
theorem dX2_collectSafe_36 : decode cX2_collectSafe 36 = .ok (.invokevirtual 105, 3) := by decide +kernel
theorem dX2_collectSafe_39 : decode cX2_collectSafe 39 = .ok (.ireturn, 1) := by decide +kernel
theorem dX2_collect_0 : decode cX2_collect 0 = .ok (.aload_n 0, 1) := by decide +kernel
theorem dX2_collect_1 : decode cX2_collect 1 = .ok (.getfield 12, 3) := by decide +kernel
theorem dX2_collect_4 : decode cX2_collect 4 = .ok (.iload_n 1, 1) := by decide +kernel
theorem dX2_collect_5 : decode cX2_collect 5 = .ok (.invokevirtual 109, 3) := by decide +kernel
theorem dX2_collect_8 : decode cX2_collect 8 = .ok (.istore_n 3, 1) := by decide +kernel
theorem dX2_collect_9 : decode cX2_collect 9 = .ok (.iload_n 1, 1) := by decide +kernel
theorem dX2_collect_10 : decode cX2_collect 10 = .ok (.iload_n 2, 1) := by decide +kernel
theorem dX2_collect_11 : decode cX2_collect 11 = .ok (.if_icmp .lt 5, 3) := by decide +kernel
theorem dX2_collect_14 : decode cX2_collect 14 = .ok (.iload_n 3, 1) := by decide +kernel
theorem dX2_collect_15 : decode cX2_collect 15 = .ok (.ireturn, 1) := by decide +kernel
theorem dX2_collect_16 : decode cX2_collect 16 = .ok (.iconst 0, 1) := by decide +kernel
theorem dX2_collect_17 : decode cX2_collect 17 = .ok (.istore 4, 2) := by decide +kernel
theorem dX2_collect_19 : decode cX2_collect 19 = .ok (.iload 4, 2) := by decide +kernel
theorem dX2_collect_21 : decode cX2_collect 21 = .ok (.aload_n 0, 1) := by decide +kernel
theorem dX2_collect_22 : decode cX2_collect 22 = .ok (.getfield 59, 3) := by decide +kernel
theorem dX2_collect_25 : decode cX2_collect 25 = .ok (.getfield 77, 3) := by decide +kernel
theorem dX2_collect_28 : decode cX2_collect 28 = .ok (.if_icmp .ge 33, 3) := by decide +kernel
theorem dX2_collect_31 : decode cX2_collect 31 = .ok (.aload_n 0, 1) := by decide +kernel
theorem dX2_collect_32 : decode cX2_collect 32 = .ok (.getfield 12, 3) := by decide +kernel
theorem dX2_collect_35 : decode cX2_collect 35 = .ok (.iload_n 1, 1) := by decide +kernel
theorem dX2_collect_36 : decode cX2_collect 36 = .ok (.iload 4, 2) := by decide +kernel
theorem dX2_collect_38 : decode cX2_collect 38 = .ok (.invokevirtual 82, 3) := by decide +kernel
theorem dX2_collect_41 : decode cX2_collect 41 = .ok (.ifCond .eq 14, 3) := by decide +kernel
theorem dX2_collect_44 : decode cX2_collect 44 = .ok (.iload_n 3, 1) := by decide +kernel
theorem dX2_collect_45 : decode cX2_collect 45 = .ok (.aload_n 0, 1) := by decide +kernel
theorem dX2_collect_46 : decode cX2_collect 46 = .ok (.iload_n 1, 1) := by decide +kernel
theorem dX2_collect_47 : decode cX2_collect 47 = .ok (.iconst 1, 1) := by decide +kernel
theorem dX2_collect_48 : decode cX2_collect 48 = .ok (.iadd, 1) := by decide +kernel
theorem dX2_collect_49 : decode cX2_collect 49 = .ok (.iload_n 2, 1) := by decide +kernel
theorem dX2_collect_50 : decode cX2_collect 50 = .ok (.invokevirtual 105, 3) := by decide +kernel
theorem dX2_collect_53 : decode cX2_collect 53 = .ok (.ior, 1) := by decide +kernel
theorem dX2_collect_54 : decode cX2_collect 54 = .ok (.istore_n 3, 1) := by decide +kernel
theorem dX2_collect_55 : decode cX2_collect 55 = .ok (.iinc 4 1, 3) := by decide +kernel
theorem dX2_collect_58 : decode cX2_collect 58 = .ok (.goto (-39), 3) := by decide +kernel
theorem dX2_collect_61 : decode cX2_collect 61 = .ok (.iload_n 3, 1) := by decide +kernel
theorem dX2_collect_62 : decode cX2_collect 62 = .ok (.ireturn, 1) := by decide +kernel
theorem dX2_seekMended_0 : decode cX2_seekMended 0 = .ok (.aload_n 0, 1) := by decide +kernel
theorem dX2_seekMended_1 : decode cX2_seekMended 1 = .ok (.aload_n 1, 1) := by decide +kernel
theorem dX2_seekMended_2 : decode cX2_seekMended 2 = .ok (.putfield 59, 3) := by decide +kernel
theorem dX2_seekMended_5 : decode cX2_seekMended 5 = .ok (.aload_n 0, 1) := by decide +kernel
theorem dX2_seekMended_6 : decode cX2_seekMended 6 = .ok (.aload_n 2, 1) := by decide +kernel
theorem dX2_seekMended_7 : decode cX2_seekMended 7 = .ok (.putfield 113, 3) := by decide +kernel
theorem dX2_seekMended_10 : decode cX2_seekMended 10 = .ok (.aload_n 0, 1) := by decide +kernel
theorem dX2_seekMended_11 : decode cX2_seekMended 11 = .ok (.bipush 10, 2) := by decide +kernel
theorem dX2_seekMended_13 : decode cX2_seekMended 13 = .ok (.bipush 10, 2) := by decide +kernel
theorem dX2_seekMended_15 : decode cX2_seekMended 15 = .ok (.invokevirtual 102, 3) := by decide +kernel
theorem dX2_seekMended_18 : decode cX2_seekMended 18 = .ok (.aload_n 0, 1) := by decide +kernel
theorem dX2_seekMended_19 : decode cX2_seekMended 19 = .ok (.getfield 12, 3) := by decide +kernel
theorem dX2_seekMended_22 : decode cX2_seekMended 22 = .ok (.aload_n 1, 1) := by decide +kernel
theorem dX2_seekMended_23 : decode cX2_seekMended 23 = .ok (.aload_n 1, 1) := by decide +kernel
theorem dX2_seekMended_24 : decode cX2_seekMended 24 = .ok (.getfield 86, 3) := by decide +kernel
theorem dX2_seekMended_27 : decode cX2_seekMended 27 = .ok (.invokevirtual 63, 3) := by decide +kernel
theorem dX2_seekMended_30 : decode cX2_seekMended 30 = .ok (.iconst 0, 1) := by decide +kernel
theorem dX2_seekMended_31 : decode cX2_seekMended 31 = .ok (.istore_n 3, 1) := by decide +kernel
theorem dX2_seekMended_32 : decode cX2_seekMended 32 = .ok (.iload_n 3, 1) := by decide +kernel
theorem dX2_seekMended_33 : decode cX2_seekMended 33 = .ok (.iconst 3, 1) := by decide +kernel
theorem dX2_seekMended_34 : decode cX2_seekMended 34 = .ok (.if_icmp .gt 50, 3) := by decide +kernel
theorem dX2_seekMended_37 : decode cX2_seekMended 37 = .ok (.aload_n 0, 1) := by decide +kernel
theorem dX2_seekMended_38 : decode cX2_seekMended 38 = .ok (.getfield 12, 3) := by decide +kernel
theorem dX2_seekMended_41 : decode cX2_seekMended 41 = .ok (.aload_n 2, 1) := by decide +kernel
theorem dX2_seekMended_42 : decode cX2_seekMended 42 = .ok (.getfield 74, 3) := by decide +kernel
theorem dX2_seekMended_45 : decode cX2_seekMended 45 = .ok (.iload_n 3, 1) := by decide +kernel
theorem dX2_seekMended_46 : decode cX2_seekMended 46 = .ok (.iadd, 1) := by decide +kernel
theorem dX2_seekMended_47 : decode cX2_seekMended 47 = .ok (.putfield 67, 3) := by decide +kernel
theorem dX2_seekMended_50 : decode cX2_seekMended 50 = .ok (.aload_n 0, 1) := by decide +kernel
theorem dX2_seekMended_51 : decode cX2_seekMended 51 = .ok (.iconst 0, 1) := by decide +kernel
theorem dX2_seekMended_52 : decode cX2_seekMended 52 = .ok (.iconst 0, 1) := by decide +kernel
theorem dX2_seekMended_53 : decode cX2_seekMended 53 = .ok (.invokevirtual 116, 3) := by decide +kernel
theorem dX2_seekMended_56 : decode cX2_seekMended 56 = .ok (.ifCond .eq 22, 3) := by decide +kernel
theorem dX2_seekMended_59 : decode cX2_seekMended 59 = .ok (.aload_n 0, 1) := by decide +kernel
theorem dX2_seekMended_60 : decode cX2_seekMended 60 = .ok (.getfield 12, 3) := by decide +kernel
theorem dX2_seekMended_63 : decode cX2_seekMended 63 = .ok (.getfield 48, 3) := by decide +kernel
theorem dX2_seekMended_66 : decode cX2_seekMended 66 = .ok (.aload_n 0, 1) := by decide +kernel
theorem dX2_seekMended_67 : decode cX2_seekMended 67 = .ok (.getfield 12, 3) := by decide +kernel
theorem dX2_seekMended_70 : decode cX2_seekMended 70 = .ok (.getfield 67, 3) := by decide +kernel
theorem dX2_seekMended_73 : decode cX2_seekMended 73 = .ok (.putfield 74, 3) := by decide +kernel
theorem dX2_seekMended_76 : decode cX2_seekMended 76 = .ok (.iload_n 3, 1) := by decide +kernel
theorem dX2_seekMended_77 : decode cX2_seekMended 77 = .ok (.ireturn, 1) := by decide +kernel
theorem dX2_seekMended_78 : decode cX2_seekMended 78 = .ok (.iinc 3 1, 3) := by decide +kernel
theorem dX2_seekMended_81 : decode cX2_seekMended 81 = .ok (.goto (-49), 3) := by decide +kernel
theorem dX2_seekMended_84 : decode cX2_seekMended 84 = .ok (.iconst (-1), 1) := by decide +kernel
theorem dX2_seekMended_85 : decode cX2_seekMended 85 = .ok (.ireturn, 1) := by decide +kernel
theorem dX2_seekWithIdle_0 : decode cX2_seekWithIdle 0 = .ok (.iload_n 1, 1) := by decide +kernel
theorem dX2_seekWithIdle_1 : decode cX2_seekWithIdle 1 = .ok (.aload_n 0, 1) := by decide +kernel
theorem dX2_seekWithIdle_2 : decode cX2_seekWithIdle 2 = .ok (.getfield 12, 3) := by decide +kernel
theorem dX2_seekWithIdle_5 : decode cX2_seekWithIdle 5 = .ok (.getfield 67, 3) := by decide +kernel
theorem dX2_seekWithIdle_8 : decode cX2_seekWithIdle 8 = .ok (.if_icmp .lt 20, 3) := by decide +kernel
theorem dX2_seekWithIdle_11 : decode cX2_seekWithIdle 11 = .ok (.aload_n 0, 1) := by decide +kernel
theorem dX2_seekWithIdle_12 : decode cX2_seekWithIdle 12 = .ok (.getfield 12, 3) := by decide +kernel
theorem dX2_seekWithIdle_15 : decode cX2_seekWithIdle 15 = .ok (.iload_n 1, 1) := by decide +kernel
theorem dX2_seekWithIdle_16 : decode cX2_seekWithIdle 16 = .ok (.invokevirtual 109, 3) := by decide +kernel
theorem dX2_seekWithIdle_19 : decode cX2_seekWithIdle 19 = .ok (.ifCond .eq 7, 3) := by decide +kernel
theorem dX2_seekWithIdle_22 : decode cX2_seekWithIdle 22 = .ok (.iconst 1, 1) := by decide +kernel
theorem dX2_seekWithIdle_23 : decode cX2_seekWithIdle 23 = .ok (.goto 4, 3) := by decide +kernel
theorem dX2_seekWithIdle_26 : decode cX2_seekWithIdle 26 = .ok (.iconst 0, 1) := by decide +kernel
theorem dX2_seekWithIdle_27 : decode cX2_seekWithIdle 27 = .ok (.ireturn, 1) := by decide +kernel
theorem dX2_seekWithIdle_28 : decode cX2_seekWithIdle 28 = .ok (.aload_n 0, 1) := by decide +kernel
theorem dX2_seekWithIdle_29 : decode cX2_seekWithIdle 29 = .ok (.getfield 113, 3) := by decide +kernel
theorem dX2_seekWithIdle_32 : decode cX2_seekWithIdle 32 = .ok (.iload_n 2, 1) := by decide +kernel
theorem dX2_seekWithIdle_33 : decode cX2_seekWithIdle 33 = .ok (.invokevirtual 119, 3) := by decide +kernel
theorem dX2_seekWithIdle_36 : decode cX2_seekWithIdle 36 = .ok (.istore_n 3, 1) := by decide +kernel
theorem dX2_seekWithIdle_37 : decode cX2_seekWithIdle 37 = .ok (.aload_n 0, 1) := by decide +kernel
theorem dX2_seekWithIdle_38 : decode cX2_seekWithIdle 38 = .ok (.getfield 12, 3) := by decide +kernel
theorem dX2_seekWithIdle_41 : decode cX2_seekWithIdle 41 = .ok (.getfield 67, 3) := by decide +kernel
theorem dX2_seekWithIdle_44 : decode cX2_seekWithIdle 44 = .ok (.iload_n 1, 1) := by decide +kernel
theorem dX2_seekWithIdle_45 : decode cX2_seekWithIdle 45 = .ok (.isub, 1) := by decide +kernel
theorem dX2_seekWithIdle_46 : decode cX2_seekWithIdle 46 = .ok (.aload_n 0, 1) := by decide +kernel
theorem dX2_seekWithIdle_47 : decode cX2_seekWithIdle 47 = .ok (.getfield 113, 3) := by decide +kernel
theorem dX2_seekWithIdle_50 : decode cX2_seekWithIdle 50 = .ok (.getfield 74, 3) := by decide +kernel
theorem dX2_seekWithIdle_53 : decode cX2_seekWithIdle 53 = .ok (.iload_n 2, 1) := by decide +kernel
theorem dX2_seekWithIdle_54 : decode cX2_seekWithIdle 54 = .ok (.isub, 1) := by decide +kernel
theorem dX2_seekWithIdle_55 : decode cX2_seekWithIdle 55 = .ok (.if_icmp .le 7, 3) := by decide +kernel
theorem dX2_seekWithIdle_58 : decode cX2_seekWithIdle 58 = .ok (.iconst 1, 1) := by decide +kernel
theorem dX2_seekWithIdle_59 : decode cX2_seekWithIdle 59 = .ok (.goto 4, 3) := by decide +kernel
theorem dX2_seekWithIdle_62 : decode cX2_seekWithIdle 62 = .ok (.iconst 0, 1) := by decide +kernel
theorem dX2_seekWithIdle_63 : decode cX2_seekWithIdle 63 = .ok (.istore 4, 2) := by decide +kernel
theorem dX2_seekWithIdle_65 : decode cX2_seekWithIdle 65 = .ok (.iconst 0, 1) := by decide +kernel
theorem dX2_seekWithIdle_66 : decode cX2_seekWithIdle 66 = .ok (.istore 5, 2) := by decide +kernel
theorem dX2_seekWithIdle_68 : decode cX2_seekWithIdle 68 = .ok (.iload 5, 2) := by decide +kernel
theorem dX2_seekWithIdle_70 : decode cX2_seekWithIdle 70 = .ok (.aload_n 0, 1) := by decide +kernel
theorem dX2_seekWithIdle_71 : decode cX2_seekWithIdle 71 = .ok (.getfield 59, 3) := by decide +kernel
theorem dX2_seekWithIdle_74 : decode cX2_seekWithIdle 74 = .ok (.getfield 77, 3) := by decide +kernel
theorem dX2_seekWithIdle_77 : decode cX2_seekWithIdle 77 = .ok (.if_icmp .ge 85, 3) := by decide +kernel
theorem dX2_seekWithIdle_80 : decode cX2_seekWithIdle 80 = .ok (.iload 5, 2) := by decide +kernel
theorem dX2_seekWithIdle_82 : decode cX2_seekWithIdle 82 = .ok (.iload_n 3, 1) := by decide +kernel
theorem dX2_seekWithIdle_83 : decode cX2_seekWithIdle 83 = .ok (.if_icmp .eq 23, 3) := by decide +kernel
theorem dX2_seekWithIdle_86 : decode cX2_seekWithIdle 86 = .ok (.iload 4, 2) := by decide +kernel
theorem dX2_seekWithIdle_88 : decode cX2_seekWithIdle 88 = .ok (.ifCond .eq 22, 3) := by decide +kernel
theorem dX2_seekWithIdle_91 : decode cX2_seekWithIdle 91 = .ok (.aload_n 0, 1) := by decide +kernel
theorem dX2_seekWithIdle_92 : decode cX2_seekWithIdle 92 = .ok (.getfield 59, 3) := by decide +kernel
theorem dX2_seekWithIdle_95 : decode cX2_seekWithIdle 95 = .ok (.getfield 122, 3) := by decide +kernel
theorem dX2_seekWithIdle_98 : decode cX2_seekWithIdle 98 = .ok (.iload 5, 2) := by decide +kernel
theorem dX2_seekWithIdle_100 : decode cX2_seekWithIdle 100 = .ok (.ishr, 1) := by decide +kernel
theorem dX2_seekWithIdle_101 : decode cX2_seekWithIdle 101 = .ok (.iconst 1, 1) := by decide +kernel
theorem dX2_seekWithIdle_102 : decode cX2_seekWithIdle 102 = .ok (.iand, 1) := by decide +kernel
theorem dX2_seekWithIdle_103 : decode cX2_seekWithIdle 103 = .ok (.ifCond .eq 7, 3) := by decide +kernel
theorem dX2_seekWithIdle_106 : decode cX2_seekWithIdle 106 = .ok (.iconst 1, 1) := by decide +kernel
theorem dX2_seekWithIdle_107 : decode cX2_seekWithIdle 107 = .ok (.goto 4, 3) := by decide +kernel
theorem dX2_seekWithIdle_110 : decode cX2_seekWithIdle 110 = .ok (.iconst 0, 1) := by decide +kernel
theorem dX2_seekWithIdle_111 : decode cX2_seekWithIdle 111 = .ok (.istore 6, 2) := by decide +kernel
theorem dX2_seekWithIdle_113 : decode cX2_seekWithIdle 113 = .ok (.iload 6, 2) := by decide +kernel
theorem dX2_seekWithIdle_115 : decode cX2_seekWithIdle 115 = .ok (.ifCond .eq 41, 3) := by decide +kernel
theorem dX2_seekWithIdle_118 : decode cX2_seekWithIdle 118 = .ok (.aload_n 0, 1) := by decide +kernel
theorem dX2_seekWithIdle_119 : decode cX2_seekWithIdle 119 = .ok (.getfield 12, 3) := by decide +kernel
theorem dX2_seekWithIdle_122 : decode cX2_seekWithIdle 122 = .ok (.iload_n 1, 1) := by decide +kernel
theorem dX2_seekWithIdle_123 : decode cX2_seekWithIdle 123 = .ok (.iload 5, 2) := by decide +kernel
theorem dX2_seekWithIdle_125 : decode cX2_seekWithIdle 125 = .ok (.invokevirtual 82, 3) := by decide +kernel
theorem dX2_seekWithIdle_128 : decode cX2_seekWithIdle 128 = .ok (.ifCond .eq 28, 3) := by decide +kernel
theorem dX2_seekWithIdle_131 : decode cX2_seekWithIdle 131 = .ok (.aload_n 0, 1) := by decide +kernel
theorem dX2_seekWithIdle_132 : decode cX2_seekWithIdle 132 = .ok (.iload_n 1, 1) := by decide +kernel
theorem dX2_seekWithIdle_133 : decode cX2_seekWithIdle 133 = .ok (.iconst 1, 1) := by decide +kernel
theorem dX2_seekWithIdle_134 : decode cX2_seekWithIdle 134 = .ok (.iadd, 1) := by decide +kernel
theorem dX2_seekWithIdle_135 : decode cX2_seekWithIdle 135 = .ok (.iload 5, 2) := by decide +kernel
theorem dX2_seekWithIdle_137 : decode cX2_seekWithIdle 137 = .ok (.iload_n 3, 1) := by decide +kernel
theorem dX2_seekWithIdle_138 : decode cX2_seekWithIdle 138 = .ok (.if_icmp .ne 9, 3) := by decide +kernel
theorem dX2_seekWithIdle_141 : decode cX2_seekWithIdle 141 = .ok (.iload_n 2, 1) := by decide +kernel
theorem dX2_seekWithIdle_142 : decode cX2_seekWithIdle 142 = .ok (.iconst 1, 1) := by decide +kernel
theorem dX2_seekWithIdle_143 : decode cX2_seekWithIdle 143 = .ok (.iadd, 1) := by decide +kernel
theorem dX2_seekWithIdle_144 : decode cX2_seekWithIdle 144 = .ok (.goto 4, 3) := by decide +kernel
theorem dX2_seekWithIdle_147 : decode cX2_seekWithIdle 147 = .ok (.iload_n 2, 1) := by decide +kernel
theorem dX2_seekWithIdle_148 : decode cX2_seekWithIdle 148 = .ok (.invokevirtual 116, 3) := by decide +kernel
theorem dX2_seekWithIdle_151 : decode cX2_seekWithIdle 151 = .ok (.ifCond .eq 5, 3) := by decide +kernel
theorem dX2_seekWithIdle_154 : decode cX2_seekWithIdle 154 = .ok (.iconst 1, 1) := by decide +kernel
theorem dX2_seekWithIdle_155 : decode cX2_seekWithIdle 155 = .ok (.ireturn, 1) := by decide +kernel
theorem dX2_seekWithIdle_156 : decode cX2_seekWithIdle 156 = .ok (.iinc 5 1, 3) := by decide +kernel
theorem dX2_seekWithIdle_159 : decode cX2_seekWithIdle 159 = .ok (.goto (-91), 3) := by decide +kernel
theorem dX2_seekWithIdle_162 : decode cX2_seekWithIdle 162 = .ok (.iconst 0, 1) := by decide +kernel
theorem dX2_seekWithIdle_163 : decode cX2_seekWithIdle 163 = .ok (.ireturn, 1) := by decide +kernel
theorem dX3_init_0 : decode cX3_init 0 = .ok (.aload_n 0, 1) := by decide +kernel
theorem dX3_init_1 : decode cX3_init 1 = .ok (.invokespecial 3, 3) := by decide +kernel
theorem dX3_init_4 : decode cX3_init 4 = .ok (.aload_n 0, 1) := by decide +kernel
theorem dX3_init_5 : decode cX3_init 5 = .ok (.new 9, 3) := by decide +kernel
theorem dX3_init_8 : decode cX3_init 8 = .ok (.dup, 1) := by decide +kernel
theorem dX3_init_9 : decode cX3_init 9 = .ok (.bipush 24, 2) := by decide +kernel
theorem dX3_init_11 : decode cX3_init 11 = .ok (.invokespecial 11, 3) := by decide +kernel
theorem dX3_init_14 : decode cX3_init 14 = .ok (.putfield 14, 3) := by decide +kernel
theorem dX3_init_17 : decode cX3_init 17 = .ok (.aload_n 0, 1) := by decide +kernel
theorem dX3_init_18 : decode cX3_init 18 = .ok (.bipush 6, 2) := by decide +kernel
theorem dX3_init_20 : decode cX3_init 20 = .ok (.newarray .long, 2) := by decide +kernel
theorem dX3_init_22 : decode cX3_init 22 = .ok (.putfield 20, 3) := by decide +kernel
theorem dX3_init_25 : decode cX3_init 25 = .ok (.aload_n 0, 1) := by decide +kernel
theorem dX3_init_26 : decode cX3_init 26 = .ok (.bipush 6, 2) := by decide +kernel
theorem dX3_init_28 : decode cX3_init 28 = .ok (.newarray .long, 2) := by decide +kernel
theorem dX3_init_30 : decode cX3_init 30 = .ok (.putfield 24, 3) := by decide +kernel
theorem dX3_init_33 : decode cX3_init 33 = .ok (.aload_n 0, 1) := by decide +kernel
theorem dX3_init_34 : decode cX3_init 34 = .ok (.bipush 24, 2) := by decide +kernel
theorem dX3_init_36 : decode cX3_init 36 = .ok (.newarray .int, 2) := by decide +kernel
theorem dX3_init_38 : decode cX3_init 38 = .ok (.putfield 27, 3) := by decide +kernel
theorem dX3_init_41 : decode cX3_init 41 = .ok (.aload_n 0, 1) := by decide +kernel
theorem dX3_init_42 : decode cX3_init 42 = .ok (.bipush 24, 2) := by decide +kernel
theorem dX3_init_44 : decode cX3_init 44 = .ok (.newarray .int, 2) := by decide +kernel
theorem dX3_init_46 : decode cX3_init 46 = .ok (.putfield 31, 3) := by decide +kernel
theorem dX3_init_49 : decode cX3_init 49 = .ok (.aload_n 0, 1) := by decide +kernel
theorem dX3_init_50 : decode cX3_init 50 = .ok (.sipush 144, 3) := by decide +kernel
theorem dX3_init_53 : decode cX3_init 53 = .ok (.newarray .int, 2) := by decide +kernel
theorem dX3_init_55 : decode cX3_init 55 = .ok (.putfield 34, 3) := by decide +kernel
theorem dX3_init_58 : decode cX3_init 58 = .ok (.aload_n 0, 1) := by decide +kernel
theorem dX3_init_59 : decode cX3_init 59 = .ok (.sipush 145, 3) := by decide +kernel
theorem dX3_init_62 : decode cX3_init 62 = .ok (.newarray .long, 2) := by decide +kernel
theorem dX3_init_64 : decode cX3_init 64 = .ok (.putfield 37, 3) := by decide +kernel
theorem dX3_init_67 : decode cX3_init 67 = .ok (.return_, 1) := by decide +kernel
theorem dX3_strike_0 : decode cX3_strike 0 = .ok (.aload_n 0, 1) := by decide +kernel
theorem dX3_strike_1 : decode cX3_strike 1 = .ok (.getfield 14, 3) := by decide +kernel
theorem dX3_strike_4 : decode cX3_strike 4 = .ok (.iconst 0, 1) := by decide +kernel
theorem dX3_strike_5 : decode cX3_strike 5 = .ok (.putfield 40, 3) := by decide +kernel
theorem dX3_strike_8 : decode cX3_strike 8 = .ok (.iconst 0, 1) := by decide +kernel
theorem dX3_strike_9 : decode cX3_strike 9 = .ok (.istore_n 3, 1) := by decide +kernel
theorem dX3_strike_10 : decode cX3_strike 10 = .ok (.iload_n 3, 1) := by decide +kernel
theorem dX3_strike_11 : decode cX3_strike 11 = .ok (.aload_n 1, 1) := by decide +kernel
theorem dX3_strike_12 : decode cX3_strike 12 = .ok (.getfield 44, 3) := by decide +kernel
theorem dX3_strike_15 : decode cX3_strike 15 = .ok (.getfield 40, 3) := by decide +kernel
theorem dX3_strike_18 : decode cX3_strike 18 = .ok (.if_icmp .ge 42, 3) := by decide +kernel
theorem dX3_strike_21 : decode cX3_strike 21 = .ok (.aload_n 1, 1) := by decide +kernel
theorem dX3_strike_22 : decode cX3_strike 22 = .ok (.getfield 49, 3) := by decide +kernel
theorem dX3_strike_25 : decode cX3_strike 25 = .ok (.getfield 53, 3) := by decide +kernel
theorem dX3_strike_28 : decode cX3_strike 28 = .ok (.iload_n 2, 1) := by decide +kernel
theorem dX3_strike_29 : decode cX3_strike 29 = .ok (.iload_n 3, 1) := by decide +kernel
theorem dX3_strike_30 : decode cX3_strike 30 = .ok (.iconst 1, 1) := by decide +kernel
theorem dX3_strike_31 : decode cX3_strike 31 = .ok (.iadd, 1) := by decide +kernel
theorem dX3_strike_32 : decode cX3_strike 32 = .ok (.invokevirtual 59, 3) := by decide +kernel
theorem dX3_strike_35 : decode cX3_strike 35 = .ok (.ifCond .ne 19, 3) := by decide +kernel
theorem dX3_strike_38 : decode cX3_strike 38 = .ok (.aload_n 0, 1) := by decide +kernel
theorem dX3_strike_39 : decode cX3_strike 39 = .ok (.getfield 14, 3) := by decide +kernel
theorem dX3_strike_42 : decode cX3_strike 42 = .ok (.aload_n 1, 1) := by decide +kernel
theorem dX3_strike_43 : decode cX3_strike 43 = .ok (.getfield 44, 3) := by decide +kernel
theorem dX3_strike_46 : decode cX3_strike 46 = .ok (.getfield 65, 3) := by decide +kernel
theorem dX3_strike_49 : decode cX3_strike 49 = .ok (.iload_n 3, 1) := by decide +kernel
theorem dX3_strike_50 : decode cX3_strike 50 = .ok (.iaload, 1) := by decide +kernel
theorem dX3_strike_51 : decode cX3_strike 51 = .ok (.invokevirtual 68, 3) := by decide +kernel
theorem dX3_strike_54 : decode cX3_strike 54 = .ok (.iinc 3 1, 3) := by decide +kernel
theorem dX3_strike_57 : decode cX3_strike 57 = .ok (.goto (-47), 3) := by decide +kernel
theorem dX3_strike_60 : decode cX3_strike 60 = .ok (.aload_n 0, 1) := by decide +kernel
theorem dX3_strike_61 : decode cX3_strike 61 = .ok (.getfield 14, 3) := by decide +kernel
theorem dX3_strike_64 : decode cX3_strike 64 = .ok (.areturn, 1) := by decide +kernel
theorem dX3_meansBy_0 : decode cX3_meansBy 0 = .ok (.ldc2_w 71, 3) := by decide +kernel
theorem dX3_meansBy_3 : decode cX3_meansBy 3 = .ok (.lstore 4, 2) := by decide +kernel
theorem dX3_meansBy_5 : decode cX3_meansBy 5 = .ok (.iconst 0, 1) := by decide +kernel
theorem dX3_meansBy_6 : decode cX3_meansBy 6 = .ok (.istore 6, 2) := by decide +kernel
theorem dX3_meansBy_8 : decode cX3_meansBy 8 = .ok (.iload 6, 2) := by decide +kernel
theorem dX3_meansBy_10 : decode cX3_meansBy 10 = .ok (.aload_n 2, 1) := by decide +kernel
theorem dX3_meansBy_11 : decode cX3_meansBy 11 = .ok (.getfield 40, 3) := by decide +kernel
theorem dX3_meansBy_14 : decode cX3_meansBy 14 = .ok (.if_icmp .ge 39, 3) := by decide +kernel
theorem dX3_meansBy_17 : decode cX3_meansBy 17 = .ok (.aload_n 1, 1) := by decide +kernel
theorem dX3_meansBy_18 : decode cX3_meansBy 18 = .ok (.getfield 53, 3) := by decide +kernel
theorem dX3_meansBy_21 : decode cX3_meansBy 21 = .ok (.iload_n 3, 1) := by decide +kernel
theorem dX3_meansBy_22 : decode cX3_meansBy 22 = .ok (.iload 6, 2) := by decide +kernel
theorem dX3_meansBy_24 : decode cX3_meansBy 24 = .ok (.iconst 1, 1) := by decide +kernel
theorem dX3_meansBy_25 : decode cX3_meansBy 25 = .ok (.iadd, 1) := by decide +kernel
theorem dX3_meansBy_26 : decode cX3_meansBy 26 = .ok (.invokevirtual 59, 3) := by decide +kernel
theorem dX3_meansBy_29 : decode cX3_meansBy 29 = .ok (.ifCond .ne 18, 3) := by decide +kernel
theorem dX3_meansBy_32 : decode cX3_meansBy 32 = .ok (.aload_n 1, 1) := by decide +kernel
theorem dX3_meansBy_33 : decode cX3_meansBy 33 = .ok (.lload 4, 2) := by decide +kernel
theorem dX3_meansBy_35 : decode cX3_meansBy 35 = .ok (.aload_n 2, 1) := by decide +kernel
theorem dX3_meansBy_36 : decode cX3_meansBy 36 = .ok (.getfield 65, 3) := by decide +kernel
theorem dX3_meansBy_39 : decode cX3_meansBy 39 = .ok (.iload 6, 2) := by decide +kernel
theorem dX3_meansBy_41 : decode cX3_meansBy 41 = .ok (.iaload, 1) := by decide +kernel
theorem dX3_meansBy_42 : decode cX3_meansBy 42 = .ok (.invokevirtual 73, 3) := by decide +kernel
theorem dX3_meansBy_45 : decode cX3_meansBy 45 = .ok (.lstore 4, 2) := by decide +kernel
theorem dX3_meansBy_47 : decode cX3_meansBy 47 = .ok (.iinc 6 1, 3) := by decide +kernel
theorem dX3_meansBy_50 : decode cX3_meansBy 50 = .ok (.goto (-42), 3) := by decide +kernel
theorem dX3_meansBy_53 : decode cX3_meansBy 53 = .ok (.aload_n 1, 1) := by decide +kernel
theorem dX3_meansBy_54 : decode cX3_meansBy 54 = .ok (.lload 4, 2) := by decide +kernel
theorem dX3_meansBy_56 : decode cX3_meansBy 56 = .ok (.invokevirtual 77, 3) := by decide +kernel
theorem dX3_meansBy_59 : decode cX3_meansBy 59 = .ok (.ireturn, 1) := by decide +kernel
theorem dX3_turnsOf_0 : decode cX3_turnsOf 0 = .ok (.aload_n 0, 1) := by decide +kernel
theorem dX3_turnsOf_1 : decode cX3_turnsOf 1 = .ok (.aload_n 1, 1) := by decide +kernel
theorem dX3_turnsOf_2 : decode cX3_turnsOf 2 = .ok (.aload_n 2, 1) := by decide +kernel
theorem dX3_turnsOf_3 : decode cX3_turnsOf 3 = .ok (.iconst 0, 1) := by decide +kernel
theorem dX3_turnsOf_4 : decode cX3_turnsOf 4 = .ok (.invokevirtual 81, 3) := by decide +kernel
theorem dX3_turnsOf_7 : decode cX3_turnsOf 7 = .ok (.istore_n 3, 1) := by decide +kernel
theorem dX3_turnsOf_8 : decode cX3_turnsOf 8 = .ok (.iconst 0, 1) := by decide +kernel
theorem dX3_turnsOf_9 : decode cX3_turnsOf 9 = .ok (.istore 4, 2) := by decide +kernel
theorem dX3_turnsOf_11 : decode cX3_turnsOf 11 = .ok (.iconst 1, 1) := by decide +kernel
theorem dX3_turnsOf_12 : decode cX3_turnsOf 12 = .ok (.istore 5, 2) := by decide +kernel
theorem dX3_turnsOf_14 : decode cX3_turnsOf 14 = .ok (.iload 5, 2) := by decide +kernel
theorem dX3_turnsOf_16 : decode cX3_turnsOf 16 = .ok (.aload_n 1, 1) := by decide +kernel
theorem dX3_turnsOf_17 : decode cX3_turnsOf 17 = .ok (.getfield 53, 3) := by decide +kernel
theorem dX3_turnsOf_20 : decode cX3_turnsOf 20 = .ok (.getfield 85, 3) := by decide +kernel
theorem dX3_turnsOf_23 : decode cX3_turnsOf 23 = .ok (.if_icmp .gt 30, 3) := by decide +kernel
theorem dX3_turnsOf_26 : decode cX3_turnsOf 26 = .ok (.aload_n 0, 1) := by decide +kernel
theorem dX3_turnsOf_27 : decode cX3_turnsOf 27 = .ok (.aload_n 1, 1) := by decide +kernel
theorem dX3_turnsOf_28 : decode cX3_turnsOf 28 = .ok (.aload_n 2, 1) := by decide +kernel
theorem dX3_turnsOf_29 : decode cX3_turnsOf 29 = .ok (.iload 5, 2) := by decide +kernel
theorem dX3_turnsOf_31 : decode cX3_turnsOf 31 = .ok (.invokevirtual 81, 3) := by decide +kernel
theorem dX3_turnsOf_34 : decode cX3_turnsOf 34 = .ok (.iload_n 3, 1) := by decide +kernel
theorem dX3_turnsOf_35 : decode cX3_turnsOf 35 = .ok (.if_icmp .eq 12, 3) := by decide +kernel
theorem dX3_turnsOf_38 : decode cX3_turnsOf 38 = .ok (.iload 4, 2) := by decide +kernel
theorem dX3_turnsOf_40 : decode cX3_turnsOf 40 = .ok (.iconst 1, 1) := by decide +kernel
theorem dX3_turnsOf_41 : decode cX3_turnsOf 41 = .ok (.iload 5, 2) := by decide +kernel
theorem dX3_turnsOf_43 : decode cX3_turnsOf 43 = .ok (.ishl, 1) := by decide +kernel
theorem dX3_turnsOf_44 : decode cX3_turnsOf 44 = .ok (.ior, 1) := by decide +kernel
theorem dX3_turnsOf_45 : decode cX3_turnsOf 45 = .ok (.istore 4, 2) := by decide +kernel
theorem dX3_turnsOf_47 : decode cX3_turnsOf 47 = .ok (.iinc 5 1, 3) := by decide +kernel
theorem dX3_turnsOf_50 : decode cX3_turnsOf 50 = .ok (.goto (-36), 3) := by decide +kernel
theorem dX3_turnsOf_53 : decode cX3_turnsOf 53 = .ok (.iload 4, 2) := by decide +kernel
theorem dX3_turnsOf_55 : decode cX3_turnsOf 55 = .ok (.ireturn, 1) := by decide +kernel
theorem dX3_meanTheSame_0 : decode cX3_meanTheSame 0 = .ok (.iconst 0, 1) := by decide +kernel
theorem dX3_meanTheSame_1 : decode cX3_meanTheSame 1 = .ok (.istore 4, 2) := by decide +kernel
theorem dX3_meanTheSame_3 : decode cX3_meanTheSame 3 = .ok (.iload 4, 2) := by decide +kernel
theorem dX3_meanTheSame_5 : decode cX3_meanTheSame 5 = .ok (.aload_n 1, 1) := by decide +kernel
theorem dX3_meanTheSame_6 : decode cX3_meanTheSame 6 = .ok (.getfield 53, 3) := by decide +kernel
theorem dX3_meanTheSame_9 : decode cX3_meanTheSame 9 = .ok (.getfield 85, 3) := by decide +kernel
theorem dX3_meanTheSame_12 : decode cX3_meanTheSame 12 = .ok (.if_icmp .gt 30, 3) := by decide +kernel
theorem dX3_meanTheSame_15 : decode cX3_meanTheSame 15 = .ok (.aload_n 0, 1) := by decide +kernel
theorem dX3_meanTheSame_16 : decode cX3_meanTheSame 16 = .ok (.aload_n 1, 1) := by decide +kernel
theorem dX3_meanTheSame_17 : decode cX3_meanTheSame 17 = .ok (.aload_n 2, 1) := by decide +kernel
theorem dX3_meanTheSame_18 : decode cX3_meanTheSame 18 = .ok (.iload 4, 2) := by decide +kernel
theorem dX3_meanTheSame_20 : decode cX3_meanTheSame 20 = .ok (.invokevirtual 81, 3) := by decide +kernel
theorem dX3_meanTheSame_23 : decode cX3_meanTheSame 23 = .ok (.aload_n 0, 1) := by decide +kernel
theorem dX3_meanTheSame_24 : decode cX3_meanTheSame 24 = .ok (.aload_n 1, 1) := by decide +kernel
theorem dX3_meanTheSame_25 : decode cX3_meanTheSame 25 = .ok (.aload_n 3, 1) := by decide +kernel
theorem dX3_meanTheSame_26 : decode cX3_meanTheSame 26 = .ok (.iload 4, 2) := by decide +kernel
theorem dX3_meanTheSame_28 : decode cX3_meanTheSame 28 = .ok (.invokevirtual 81, 3) := by decide +kernel
theorem dX3_meanTheSame_31 : decode cX3_meanTheSame 31 = .ok (.if_icmp .eq 5, 3) := by decide +kernel
theorem dX3_meanTheSame_34 : decode cX3_meanTheSame 34 = .ok (.iconst 0, 1) := by decide +kernel
theorem dX3_meanTheSame_35 : decode cX3_meanTheSame 35 = .ok (.ireturn, 1) := by decide +kernel
theorem dX3_meanTheSame_36 : decode cX3_meanTheSame 36 = .ok (.iinc 4 1, 3) := by decide +kernel
theorem dX3_meanTheSame_39 : decode cX3_meanTheSame 39 = .ok (.goto (-36), 3) := by decide +kernel
theorem dX3_meanTheSame_42 : decode cX3_meanTheSame 42 = .ok (.iconst 1, 1) := by decide +kernel
theorem dX3_meanTheSame_43 : decode cX3_meanTheSame 43 = .ok (.ireturn, 1) := by decide +kernel
theorem dX3_beatsBy_0 : decode cX3_beatsBy 0 = .ok (.iconst 0, 1) := by decide +kernel
theorem dX3_beatsBy_1 : decode cX3_beatsBy 1 = .ok (.istore 4, 2) := by decide +kernel
theorem dX3_beatsBy_3 : decode cX3_beatsBy 3 = .ok (.iconst 0, 1) := by decide +kernel
theorem dX3_beatsBy_4 : decode cX3_beatsBy 4 = .ok (.istore 5, 2) := by decide +kernel
theorem dX3_beatsBy_6 : decode cX3_beatsBy 6 = .ok (.iload 5, 2) := by decide +kernel
theorem dX3_beatsBy_8 : decode cX3_beatsBy 8 = .ok (.aload_n 2, 1) := by decide +kernel
theorem dX3_beatsBy_9 : decode cX3_beatsBy 9 = .ok (.getfield 40, 3) := by decide +kernel
theorem dX3_beatsBy_12 : decode cX3_beatsBy 12 = .ok (.if_icmp .ge 41, 3) := by decide +kernel
theorem dX3_beatsBy_15 : decode cX3_beatsBy 15 = .ok (.aload_n 1, 1) := by decide +kernel
theorem dX3_beatsBy_16 : decode cX3_beatsBy 16 = .ok (.getfield 53, 3) := by decide +kernel
theorem dX3_beatsBy_19 : decode cX3_beatsBy 19 = .ok (.iload_n 3, 1) := by decide +kernel
theorem dX3_beatsBy_20 : decode cX3_beatsBy 20 = .ok (.iload 5, 2) := by decide +kernel
theorem dX3_beatsBy_22 : decode cX3_beatsBy 22 = .ok (.iconst 1, 1) := by decide +kernel
theorem dX3_beatsBy_23 : decode cX3_beatsBy 23 = .ok (.iadd, 1) := by decide +kernel
theorem dX3_beatsBy_24 : decode cX3_beatsBy 24 = .ok (.invokevirtual 59, 3) := by decide +kernel
theorem dX3_beatsBy_27 : decode cX3_beatsBy 27 = .ok (.ifCond .ne 20, 3) := by decide +kernel
theorem dX3_beatsBy_30 : decode cX3_beatsBy 30 = .ok (.iload 4, 2) := by decide +kernel
theorem dX3_beatsBy_32 : decode cX3_beatsBy 32 = .ok (.aload_n 1, 1) := by decide +kernel
theorem dX3_beatsBy_33 : decode cX3_beatsBy 33 = .ok (.getfield 88, 3) := by decide +kernel
theorem dX3_beatsBy_36 : decode cX3_beatsBy 36 = .ok (.aload_n 2, 1) := by decide +kernel
theorem dX3_beatsBy_37 : decode cX3_beatsBy 37 = .ok (.getfield 65, 3) := by decide +kernel
theorem dX3_beatsBy_40 : decode cX3_beatsBy 40 = .ok (.iload 5, 2) := by decide +kernel
theorem dX3_beatsBy_42 : decode cX3_beatsBy 42 = .ok (.iaload, 1) := by decide +kernel
theorem dX3_beatsBy_43 : decode cX3_beatsBy 43 = .ok (.iaload, 1) := by decide +kernel
theorem dX3_beatsBy_44 : decode cX3_beatsBy 44 = .ok (.iadd, 1) := by decide +kernel
theorem dX3_beatsBy_45 : decode cX3_beatsBy 45 = .ok (.istore 4, 2) := by decide +kernel
theorem dX3_beatsBy_47 : decode cX3_beatsBy 47 = .ok (.iinc 5 1, 3) := by decide +kernel
theorem dX3_beatsBy_50 : decode cX3_beatsBy 50 = .ok (.goto (-44), 3) := by decide +kernel
theorem dX3_beatsBy_53 : decode cX3_beatsBy 53 = .ok (.iload 4, 2) := by decide +kernel
theorem dX3_beatsBy_55 : decode cX3_beatsBy 55 = .ok (.ireturn, 1) := by decide +kernel
theorem dX3_countReadings_0 : decode cX3_countReadings 0 = .ok (.aload_n 0, 1) := by decide +kernel
theorem dX3_countReadings_1 : decode cX3_countReadings 1 = .ok (.getfield 20, 3) := by decide +kernel
theorem dX3_countReadings_4 : decode cX3_countReadings 4 = .ok (.lconst 0, 1) := by decide +kernel
theorem dX3_countReadings_5 : decode cX3_countReadings 5 = .ok (.invokestatic 91, 3) := by decide +kernel
theorem dX3_countReadings_8 : decode cX3_countReadings 8 = .ok (.aload_n 0, 1) := by decide +kernel
theorem dX3_countReadings_9 : decode cX3_countReadings 9 = .ok (.getfield 20, 3) := by decide +kernel
theorem dX3_countReadings_12 : decode cX3_countReadings 12 = .ok (.iconst 5, 1) := by decide +kernel
theorem dX3_countReadings_13 : decode cX3_countReadings 13 = .ok (.lconst 1, 1) := by decide +kernel
theorem dX3_countReadings_14 : decode cX3_countReadings 14 = .ok (.lastore, 1) := by decide +kernel
theorem dX3_countReadings_15 : decode cX3_countReadings 15 = .ok (.iconst 0, 1) := by decide +kernel
theorem dX3_countReadings_16 : decode cX3_countReadings 16 = .ok (.istore_n 3, 1) := by decide +kernel
theorem dX3_countReadings_17 : decode cX3_countReadings 17 = .ok (.iload_n 3, 1) := by decide +kernel
theorem dX3_countReadings_18 : decode cX3_countReadings 18 = .ok (.aload_n 2, 1) := by decide +kernel
theorem dX3_countReadings_19 : decode cX3_countReadings 19 = .ok (.getfield 40, 3) := by decide +kernel
theorem dX3_countReadings_22 : decode cX3_countReadings 22 = .ok (.if_icmp .ge 20, 3) := by decide +kernel
theorem dX3_countReadings_25 : decode cX3_countReadings 25 = .ok (.aload_n 0, 1) := by decide +kernel
theorem dX3_countReadings_26 : decode cX3_countReadings 26 = .ok (.aload_n 1, 1) := by decide +kernel
theorem dX3_countReadings_27 : decode cX3_countReadings 27 = .ok (.aload_n 2, 1) := by decide +kernel
theorem dX3_countReadings_28 : decode cX3_countReadings 28 = .ok (.getfield 65, 3) := by decide +kernel
theorem dX3_countReadings_31 : decode cX3_countReadings 31 = .ok (.iload_n 3, 1) := by decide +kernel
theorem dX3_countReadings_32 : decode cX3_countReadings 32 = .ok (.iaload, 1) := by decide +kernel
theorem dX3_countReadings_33 : decode cX3_countReadings 33 = .ok (.invokevirtual 97, 3) := by decide +kernel
theorem dX3_countReadings_36 : decode cX3_countReadings 36 = .ok (.iinc 3 1, 3) := by decide +kernel
theorem dX3_countReadings_39 : decode cX3_countReadings 39 = .ok (.goto (-22), 3) := by decide +kernel
theorem dX3_countReadings_42 : decode cX3_countReadings 42 = .ok (.lconst 0, 1) := by decide +kernel
theorem dX3_countReadings_43 : decode cX3_countReadings 43 = .ok (.lstore_n 3, 1) := by decide +kernel
theorem dX3_countReadings_44 : decode cX3_countReadings 44 = .ok (.iconst 0, 1) := by decide +kernel
theorem dX3_countReadings_45 : decode cX3_countReadings 45 = .ok (.istore 5, 2) := by decide +kernel
theorem dX3_countReadings_47 : decode cX3_countReadings 47 = .ok (.iload 5, 2) := by decide +kernel
theorem dX3_countReadings_49 : decode cX3_countReadings 49 = .ok (.aload_n 1, 1) := by decide +kernel
theorem dX3_countReadings_50 : decode cX3_countReadings 50 = .ok (.getfield 101, 3) := by decide +kernel
theorem dX3_countReadings_53 : decode cX3_countReadings 53 = .ok (.if_icmp .ge 32, 3) := by decide +kernel
theorem dX3_countReadings_56 : decode cX3_countReadings 56 = .ok (.lload_n 3, 1) := by decide +kernel
theorem dX3_countReadings_57 : decode cX3_countReadings 57 = .ok (.aload_n 1, 1) := by decide +kernel
theorem dX3_countReadings_58 : decode cX3_countReadings 58 = .ok (.iload 5, 2) := by decide +kernel
theorem dX3_countReadings_60 : decode cX3_countReadings 60 = .ok (.invokevirtual 104, 3) := by decide +kernel
theorem dX3_countReadings_63 : decode cX3_countReadings 63 = .ok (.ifCond .eq 13, 3) := by decide +kernel
theorem dX3_countReadings_66 : decode cX3_countReadings 66 = .ok (.aload_n 0, 1) := by decide +kernel
theorem dX3_countReadings_67 : decode cX3_countReadings 67 = .ok (.getfield 20, 3) := by decide +kernel
theorem dX3_countReadings_70 : decode cX3_countReadings 70 = .ok (.iload 5, 2) := by decide +kernel
theorem dX3_countReadings_72 : decode cX3_countReadings 72 = .ok (.laload, 1) := by decide +kernel
theorem dX3_countReadings_73 : decode cX3_countReadings 73 = .ok (.goto 4, 3) := by decide +kernel
theorem dX3_countReadings_76 : decode cX3_countReadings 76 = .ok (.lconst 0, 1) := by decide +kernel
theorem dX3_countReadings_77 : decode cX3_countReadings 77 = .ok (.ladd, 1) := by decide +kernel
theorem dX3_countReadings_78 : decode cX3_countReadings 78 = .ok (.lstore_n 3, 1) := by decide +kernel
theorem dX3_countReadings_79 : decode cX3_countReadings 79 = .ok (.iinc 5 1, 3) := by decide +kernel
theorem dX3_countReadings_82 : decode cX3_countReadings 82 = .ok (.goto (-35), 3) := by decide +kernel
theorem dX3_countReadings_85 : decode cX3_countReadings 85 = .ok (.lload_n 3, 1) := by decide +kernel
theorem dX3_countReadings_86 : decode cX3_countReadings 86 = .ok (.lreturn, 1) := by decide +kernel
theorem dX3_countWith_0 : decode cX3_countWith 0 = .ok (.aload_n 0, 1) := by decide +kernel
theorem dX3_countWith_1 : decode cX3_countWith 1 = .ok (.getfield 24, 3) := by decide +kernel
theorem dX3_countWith_4 : decode cX3_countWith 4 = .ok (.lconst 0, 1) := by decide +kernel
theorem dX3_countWith_5 : decode cX3_countWith 5 = .ok (.invokestatic 91, 3) := by decide +kernel
theorem dX3_countWith_8 : decode cX3_countWith 8 = .ok (.iconst 0, 1) := by decide +kernel
theorem dX3_countWith_9 : decode cX3_countWith 9 = .ok (.istore_n 3, 1) := by decide +kernel
theorem dX3_countWith_10 : decode cX3_countWith 10 = .ok (.iload_n 3, 1) := by decide +kernel
theorem dX3_countWith_11 : decode cX3_countWith 11 = .ok (.aload_n 1, 1) := by decide +kernel
theorem dX3_countWith_12 : decode cX3_countWith 12 = .ok (.getfield 101, 3) := by decide +kernel
theorem dX3_countWith_15 : decode cX3_countWith 15 = .ok (.if_icmp .ge 63, 3) := by decide +kernel
theorem dX3_countWith_18 : decode cX3_countWith 18 = .ok (.iconst 0, 1) := by decide +kernel
theorem dX3_countWith_19 : decode cX3_countWith 19 = .ok (.istore 4, 2) := by decide +kernel
theorem dX3_countWith_21 : decode cX3_countWith 21 = .ok (.iload 4, 2) := by decide +kernel
theorem dX3_countWith_23 : decode cX3_countWith 23 = .ok (.iconst 5, 1) := by decide +kernel
theorem dX3_countWith_24 : decode cX3_countWith 24 = .ok (.if_icmp .gt 48, 3) := by decide +kernel
theorem dX3_countWith_27 : decode cX3_countWith 27 = .ok (.aload_n 1, 1) := by decide +kernel
theorem dX3_countWith_28 : decode cX3_countWith 28 = .ok (.iload_n 2, 1) := by decide +kernel
theorem dX3_countWith_29 : decode cX3_countWith 29 = .ok (.iload_n 3, 1) := by decide +kernel
theorem dX3_countWith_30 : decode cX3_countWith 30 = .ok (.invokevirtual 108, 3) := by decide +kernel
theorem dX3_countWith_33 : decode cX3_countWith 33 = .ok (.ifCond .eq 39, 3) := by decide +kernel
theorem dX3_countWith_36 : decode cX3_countWith 36 = .ok (.aload_n 0, 1) := by decide +kernel
theorem dX3_countWith_37 : decode cX3_countWith 37 = .ok (.getfield 24, 3) := by decide +kernel
theorem dX3_countWith_40 : decode cX3_countWith 40 = .ok (.iload_n 3, 1) := by decide +kernel
theorem dX3_countWith_41 : decode cX3_countWith 41 = .ok (.dup2, 1) := by decide +kernel
theorem dX3_countWith_42 : decode cX3_countWith 42 = .ok (.laload, 1) := by decide +kernel
theorem dX3_countWith_43 : decode cX3_countWith 43 = .ok (.aload_n 1, 1) := by decide +kernel
theorem dX3_countWith_44 : decode cX3_countWith 44 = .ok (.iload 4, 2) := by decide +kernel
theorem dX3_countWith_46 : decode cX3_countWith 46 = .ok (.iload_n 3, 1) := by decide +kernel
theorem dX3_countWith_47 : decode cX3_countWith 47 = .ok (.invokevirtual 111, 3) := by decide +kernel
theorem dX3_countWith_50 : decode cX3_countWith 50 = .ok (.ifCond .eq 13, 3) := by decide +kernel
theorem dX3_countWith_53 : decode cX3_countWith 53 = .ok (.aload_n 0, 1) := by decide +kernel
theorem dX3_countWith_54 : decode cX3_countWith 54 = .ok (.getfield 20, 3) := by decide +kernel
theorem dX3_countWith_57 : decode cX3_countWith 57 = .ok (.iload 4, 2) := by decide +kernel
theorem dX3_countWith_59 : decode cX3_countWith 59 = .ok (.laload, 1) := by decide +kernel
theorem dX3_countWith_60 : decode cX3_countWith 60 = .ok (.goto 4, 3) := by decide +kernel
theorem dX3_countWith_63 : decode cX3_countWith 63 = .ok (.lconst 0, 1) := by decide +kernel
theorem dX3_countWith_64 : decode cX3_countWith 64 = .ok (.ladd, 1) := by decide +kernel
theorem dX3_countWith_65 : decode cX3_countWith 65 = .ok (.lastore, 1) := by decide +kernel
theorem dX3_countWith_66 : decode cX3_countWith 66 = .ok (.iinc 4 1, 3) := by decide +kernel
theorem dX3_countWith_69 : decode cX3_countWith 69 = .ok (.goto (-48), 3) := by decide +kernel
theorem dX3_countWith_72 : decode cX3_countWith 72 = .ok (.iinc 3 1, 3) := by decide +kernel
theorem dX3_countWith_75 : decode cX3_countWith 75 = .ok (.goto (-65), 3) := by decide +kernel
theorem dX3_countWith_78 : decode cX3_countWith 78 = .ok (.aload_n 0, 1) := by decide +kernel
theorem dX3_countWith_79 : decode cX3_countWith 79 = .ok (.getfield 24, 3) := by decide +kernel
theorem dX3_countWith_82 : decode cX3_countWith 82 = .ok (.iconst 0, 1) := by decide +kernel
theorem dX3_countWith_83 : decode cX3_countWith 83 = .ok (.aload_n 0, 1) := by decide +kernel
theorem dX3_countWith_84 : decode cX3_countWith 84 = .ok (.getfield 20, 3) := by decide +kernel
theorem dX3_countWith_87 : decode cX3_countWith 87 = .ok (.iconst 0, 1) := by decide +kernel
theorem dX3_countWith_88 : decode cX3_countWith 88 = .ok (.aload_n 0, 1) := by decide +kernel
theorem dX3_countWith_89 : decode cX3_countWith 89 = .ok (.getfield 20, 3) := by decide +kernel
theorem dX3_countWith_92 : decode cX3_countWith 92 = .ok (.arraylength, 1) := by decide +kernel
theorem dX3_countWith_93 : decode cX3_countWith 93 = .ok (.invokestatic 114, 3) := by decide +kernel
theorem dX3_countWith_96 : decode cX3_countWith 96 = .ok (.return_, 1) := by decide +kernel
theorem dX3_readFirst_0 : decode cX3_readFirst 0 = .ok (.iconst 0, 1) := by decide +kernel
theorem dX3_readFirst_1 : decode cX3_readFirst 1 = .ok (.istore_n 3, 1) := by decide +kernel
theorem dX3_readFirst_2 : decode cX3_readFirst 2 = .ok (.aload_n 2, 1) := by decide +kernel
theorem dX3_readFirst_3 : decode cX3_readFirst 3 = .ok (.getfield 40, 3) := by decide +kernel
theorem dX3_readFirst_6 : decode cX3_readFirst 6 = .ok (.iconst 1, 1) := by decide +kernel
theorem dX3_readFirst_7 : decode cX3_readFirst 7 = .ok (.isub, 1) := by decide +kernel
theorem dX3_readFirst_8 : decode cX3_readFirst 8 = .ok (.istore 4, 2) := by decide +kernel
theorem dX3_readFirst_10 : decode cX3_readFirst 10 = .ok (.iload 4, 2) := by decide +kernel
theorem dX3_readFirst_12 : decode cX3_readFirst 12 = .ok (.ifCond .lt 107, 3) := by decide +kernel
theorem dX3_readFirst_15 : decode cX3_readFirst 15 = .ok (.aload_n 0, 1) := by decide +kernel
theorem dX3_readFirst_16 : decode cX3_readFirst 16 = .ok (.getfield 27, 3) := by decide +kernel
theorem dX3_readFirst_19 : decode cX3_readFirst 19 = .ok (.iload 4, 2) := by decide +kernel
theorem dX3_readFirst_21 : decode cX3_readFirst 21 = .ok (.iconst 0, 1) := by decide +kernel
theorem dX3_readFirst_22 : decode cX3_readFirst 22 = .ok (.iastore, 1) := by decide +kernel
theorem dX3_readFirst_23 : decode cX3_readFirst 23 = .ok (.iconst 0, 1) := by decide +kernel
theorem dX3_readFirst_24 : decode cX3_readFirst 24 = .ok (.istore 5, 2) := by decide +kernel
theorem dX3_readFirst_26 : decode cX3_readFirst 26 = .ok (.iload 5, 2) := by decide +kernel
theorem dX3_readFirst_28 : decode cX3_readFirst 28 = .ok (.aload_n 1, 1) := by decide +kernel
theorem dX3_readFirst_29 : decode cX3_readFirst 29 = .ok (.getfield 101, 3) := by decide +kernel
theorem dX3_readFirst_32 : decode cX3_readFirst 32 = .ok (.if_icmp .ge 73, 3) := by decide +kernel
theorem dX3_readFirst_35 : decode cX3_readFirst 35 = .ok (.iload 4, 2) := by decide +kernel
theorem dX3_readFirst_37 : decode cX3_readFirst 37 = .ok (.aload_n 2, 1) := by decide +kernel
theorem dX3_readFirst_38 : decode cX3_readFirst 38 = .ok (.getfield 40, 3) := by decide +kernel
theorem dX3_readFirst_41 : decode cX3_readFirst 41 = .ok (.iconst 1, 1) := by decide +kernel
theorem dX3_readFirst_42 : decode cX3_readFirst 42 = .ok (.isub, 1) := by decide +kernel
theorem dX3_readFirst_43 : decode cX3_readFirst 43 = .ok (.if_icmp .ne 12, 3) := by decide +kernel
theorem dX3_readFirst_46 : decode cX3_readFirst 46 = .ok (.aload_n 1, 1) := by decide +kernel
theorem dX3_readFirst_47 : decode cX3_readFirst 47 = .ok (.iload 5, 2) := by decide +kernel
theorem dX3_readFirst_49 : decode cX3_readFirst 49 = .ok (.invokevirtual 104, 3) := by decide +kernel
theorem dX3_readFirst_52 : decode cX3_readFirst 52 = .ok (.goto 10, 3) := by decide +kernel
theorem dX3_readFirst_55 : decode cX3_readFirst 55 = .ok (.aload_n 1, 1) := by decide +kernel
theorem dX3_readFirst_56 : decode cX3_readFirst 56 = .ok (.iload 5, 2) := by decide +kernel
theorem dX3_readFirst_58 : decode cX3_readFirst 58 = .ok (.iload_n 3, 1) := by decide +kernel
theorem dX3_readFirst_59 : decode cX3_readFirst 59 = .ok (.invokestatic 120, 3) := by decide +kernel
theorem dX3_readFirst_62 : decode cX3_readFirst 62 = .ok (.istore 6, 2) := by decide +kernel
theorem dX3_readFirst_64 : decode cX3_readFirst 64 = .ok (.iload 6, 2) := by decide +kernel
theorem dX3_readFirst_66 : decode cX3_readFirst 66 = .ok (.ifCond .eq 33, 3) := by decide +kernel
theorem dX3_readFirst_69 : decode cX3_readFirst 69 = .ok (.aload_n 1, 1) := by decide +kernel
theorem dX3_readFirst_70 : decode cX3_readFirst 70 = .ok (.aload_n 2, 1) := by decide +kernel
theorem dX3_readFirst_71 : decode cX3_readFirst 71 = .ok (.getfield 65, 3) := by decide +kernel
theorem dX3_readFirst_74 : decode cX3_readFirst 74 = .ok (.iload 4, 2) := by decide +kernel
theorem dX3_readFirst_76 : decode cX3_readFirst 76 = .ok (.iaload, 1) := by decide +kernel
theorem dX3_readFirst_77 : decode cX3_readFirst 77 = .ok (.iload 5, 2) := by decide +kernel
theorem dX3_readFirst_79 : decode cX3_readFirst 79 = .ok (.invokevirtual 108, 3) := by decide +kernel
theorem dX3_readFirst_82 : decode cX3_readFirst 82 = .ok (.ifCond .eq 17, 3) := by decide +kernel
theorem dX3_readFirst_85 : decode cX3_readFirst 85 = .ok (.aload_n 0, 1) := by decide +kernel
theorem dX3_readFirst_86 : decode cX3_readFirst 86 = .ok (.getfield 27, 3) := by decide +kernel
theorem dX3_readFirst_89 : decode cX3_readFirst 89 = .ok (.iload 4, 2) := by decide +kernel
theorem dX3_readFirst_91 : decode cX3_readFirst 91 = .ok (.dup2, 1) := by decide +kernel
theorem dX3_readFirst_92 : decode cX3_readFirst 92 = .ok (.iaload, 1) := by decide +kernel
theorem dX3_readFirst_93 : decode cX3_readFirst 93 = .ok (.iconst 1, 1) := by decide +kernel
theorem dX3_readFirst_94 : decode cX3_readFirst 94 = .ok (.iload 5, 2) := by decide +kernel
theorem dX3_readFirst_96 : decode cX3_readFirst 96 = .ok (.ishl, 1) := by decide +kernel
theorem dX3_readFirst_97 : decode cX3_readFirst 97 = .ok (.ior, 1) := by decide +kernel
theorem dX3_readFirst_98 : decode cX3_readFirst 98 = .ok (.iastore, 1) := by decide +kernel
theorem dX3_readFirst_99 : decode cX3_readFirst 99 = .ok (.iinc 5 1, 3) := by decide +kernel
theorem dX3_readFirst_102 : decode cX3_readFirst 102 = .ok (.goto (-76), 3) := by decide +kernel
theorem dX3_readFirst_105 : decode cX3_readFirst 105 = .ok (.aload_n 0, 1) := by decide +kernel
theorem dX3_readFirst_106 : decode cX3_readFirst 106 = .ok (.getfield 27, 3) := by decide +kernel
theorem dX3_readFirst_109 : decode cX3_readFirst 109 = .ok (.iload 4, 2) := by decide +kernel
theorem dX3_readFirst_111 : decode cX3_readFirst 111 = .ok (.iaload, 1) := by decide +kernel
theorem dX3_readFirst_112 : decode cX3_readFirst 112 = .ok (.istore_n 3, 1) := by decide +kernel
theorem dX3_readFirst_113 : decode cX3_readFirst 113 = .ok (.iinc 4 (-1), 3) := by decide +kernel
theorem dX3_readFirst_116 : decode cX3_readFirst 116 = .ok (.goto (-106), 3) := by decide +kernel
theorem dX3_readFirst_119 : decode cX3_readFirst 119 = .ok (.iconst 5, 1) := by decide +kernel
theorem dX3_readFirst_120 : decode cX3_readFirst 120 = .ok (.istore 4, 2) := by decide +kernel
theorem dX3_readFirst_122 : decode cX3_readFirst 122 = .ok (.iconst 0, 1) := by decide +kernel
theorem dX3_readFirst_123 : decode cX3_readFirst 123 = .ok (.istore 5, 2) := by decide +kernel
theorem dX3_readFirst_125 : decode cX3_readFirst 125 = .ok (.iload 5, 2) := by decide +kernel
theorem dX3_readFirst_127 : decode cX3_readFirst 127 = .ok (.aload_n 2, 1) := by decide +kernel
theorem dX3_readFirst_128 : decode cX3_readFirst 128 = .ok (.getfield 40, 3) := by decide +kernel
theorem dX3_readFirst_131 : decode cX3_readFirst 131 = .ok (.if_icmp .ge 40, 3) := by decide +kernel
theorem dX3_readFirst_134 : decode cX3_readFirst 134 = .ok (.aload_n 1, 1) := by decide +kernel
theorem dX3_readFirst_135 : decode cX3_readFirst 135 = .ok (.iload 4, 2) := by decide +kernel
theorem dX3_readFirst_137 : decode cX3_readFirst 137 = .ok (.aload_n 0, 1) := by decide +kernel
theorem dX3_readFirst_138 : decode cX3_readFirst 138 = .ok (.getfield 27, 3) := by decide +kernel
theorem dX3_readFirst_141 : decode cX3_readFirst 141 = .ok (.iload 5, 2) := by decide +kernel
theorem dX3_readFirst_143 : decode cX3_readFirst 143 = .ok (.iaload, 1) := by decide +kernel
theorem dX3_readFirst_144 : decode cX3_readFirst 144 = .ok (.invokestatic 124, 3) := by decide +kernel
theorem dX3_readFirst_147 : decode cX3_readFirst 147 = .ok (.istore 4, 2) := by decide +kernel
theorem dX3_readFirst_149 : decode cX3_readFirst 149 = .ok (.iload 4, 2) := by decide +kernel
theorem dX3_readFirst_151 : decode cX3_readFirst 151 = .ok (.ifCond .ge 5, 3) := by decide +kernel
theorem dX3_readFirst_154 : decode cX3_readFirst 154 = .ok (.iconst 0, 1) := by decide +kernel
theorem dX3_readFirst_155 : decode cX3_readFirst 155 = .ok (.ireturn, 1) := by decide +kernel
theorem dX3_readFirst_156 : decode cX3_readFirst 156 = .ok (.aload_n 0, 1) := by decide +kernel
theorem dX3_readFirst_157 : decode cX3_readFirst 157 = .ok (.getfield 31, 3) := by decide +kernel
theorem dX3_readFirst_160 : decode cX3_readFirst 160 = .ok (.iload 5, 2) := by decide +kernel
theorem dX3_readFirst_162 : decode cX3_readFirst 162 = .ok (.iload 4, 2) := by decide +kernel
theorem dX3_readFirst_164 : decode cX3_readFirst 164 = .ok (.iastore, 1) := by decide +kernel
theorem dX3_readFirst_165 : decode cX3_readFirst 165 = .ok (.iinc 5 1, 3) := by decide +kernel
theorem dX3_readFirst_168 : decode cX3_readFirst 168 = .ok (.goto (-43), 3) := by decide +kernel
theorem dX3_readFirst_171 : decode cX3_readFirst 171 = .ok (.aload_n 2, 1) := by decide +kernel
theorem dX3_readFirst_172 : decode cX3_readFirst 172 = .ok (.getfield 40, 3) := by decide +kernel
theorem dX3_readFirst_175 : decode cX3_readFirst 175 = .ok (.ifCond .le 7, 3) := by decide +kernel
theorem dX3_readFirst_178 : decode cX3_readFirst 178 = .ok (.iconst 1, 1) := by decide +kernel
theorem dX3_readFirst_179 : decode cX3_readFirst 179 = .ok (.goto 4, 3) := by decide +kernel
theorem dX3_readFirst_182 : decode cX3_readFirst 182 = .ok (.iconst 0, 1) := by decide +kernel
theorem dX3_readFirst_183 : decode cX3_readFirst 183 = .ok (.ireturn, 1) := by decide +kernel
theorem dX3_leadsTo_0 : decode cX3_leadsTo 0 = .ok (.aload_n 0, 1) := by decide +kernel
theorem dX3_leadsTo_1 : decode cX3_leadsTo 1 = .ok (.iload_n 1, 1) := by decide +kernel
theorem dX3_leadsTo_2 : decode cX3_leadsTo 2 = .ok (.iload_n 2, 1) := by decide +kernel
theorem dX3_leadsTo_3 : decode cX3_leadsTo 3 = .ok (.invokestatic 124, 3) := by decide +kernel
theorem dX3_leadsTo_6 : decode cX3_leadsTo 6 = .ok (.ifCond .lt 7, 3) := by decide +kernel
theorem dX3_leadsTo_9 : decode cX3_leadsTo 9 = .ok (.iconst 1, 1) := by decide +kernel
theorem dX3_leadsTo_10 : decode cX3_leadsTo 10 = .ok (.goto 4, 3) := by decide +kernel
theorem dX3_leadsTo_13 : decode cX3_leadsTo 13 = .ok (.iconst 0, 1) := by decide +kernel
theorem dX3_leadsTo_14 : decode cX3_leadsTo 14 = .ok (.ireturn, 1) := by decide +kernel
theorem dX3_firstBehind_0 : decode cX3_firstBehind 0 = .ok (.iconst 0, 1) := by decide +kernel
theorem dX3_firstBehind_1 : decode cX3_firstBehind 1 = .ok (.istore_n 3, 1) := by decide +kernel
theorem dX3_firstBehind_2 : decode cX3_firstBehind 2 = .ok (.iload_n 3, 1) := by decide +kernel
theorem dX3_firstBehind_3 : decode cX3_firstBehind 3 = .ok (.aload_n 0, 1) := by decide +kernel
theorem dX3_firstBehind_4 : decode cX3_firstBehind 4 = .ok (.getfield 101, 3) := by decide +kernel
theorem dX3_firstBehind_7 : decode cX3_firstBehind 7 = .ok (.if_icmp .ge 28, 3) := by decide +kernel
theorem dX3_firstBehind_10 : decode cX3_firstBehind 10 = .ok (.iload_n 2, 1) := by decide +kernel
theorem dX3_firstBehind_11 : decode cX3_firstBehind 11 = .ok (.iload_n 3, 1) := by decide +kernel
theorem dX3_firstBehind_12 : decode cX3_firstBehind 12 = .ok (.ishr, 1) := by decide +kernel
theorem dX3_firstBehind_13 : decode cX3_firstBehind 13 = .ok (.iconst 1, 1) := by decide +kernel
theorem dX3_firstBehind_14 : decode cX3_firstBehind 14 = .ok (.iand, 1) := by decide +kernel
theorem dX3_firstBehind_15 : decode cX3_firstBehind 15 = .ok (.ifCond .eq 14, 3) := by decide +kernel
theorem dX3_firstBehind_18 : decode cX3_firstBehind 18 = .ok (.aload_n 0, 1) := by decide +kernel
theorem dX3_firstBehind_19 : decode cX3_firstBehind 19 = .ok (.iload_n 1, 1) := by decide +kernel
theorem dX3_firstBehind_20 : decode cX3_firstBehind 20 = .ok (.iload_n 3, 1) := by decide +kernel
theorem dX3_firstBehind_21 : decode cX3_firstBehind 21 = .ok (.invokevirtual 111, 3) := by decide +kernel
theorem dX3_firstBehind_24 : decode cX3_firstBehind 24 = .ok (.ifCond .eq 5, 3) := by decide +kernel
theorem dX3_firstBehind_27 : decode cX3_firstBehind 27 = .ok (.iload_n 3, 1) := by decide +kernel
theorem dX3_firstBehind_28 : decode cX3_firstBehind 28 = .ok (.ireturn, 1) := by decide +kernel
theorem dX3_firstBehind_29 : decode cX3_firstBehind 29 = .ok (.iinc 3 1, 3) := by decide +kernel
theorem dX3_firstBehind_32 : decode cX3_firstBehind 32 = .ok (.goto (-30), 3) := by decide +kernel
theorem dX3_firstBehind_35 : decode cX3_firstBehind 35 = .ok (.iconst (-1), 1) := by decide +kernel
theorem dX3_firstBehind_36 : decode cX3_firstBehind 36 = .ok (.ireturn, 1) := by decide +kernel
theorem dX3_sortRead_0 : decode cX3_sortRead 0 = .ok (.iload_n 1, 1) := by decide +kernel
theorem dX3_sortRead_1 : decode cX3_sortRead 1 = .ok (.ifCond .lt 21, 3) := by decide +kernel
theorem dX3_sortRead_4 : decode cX3_sortRead 4 = .ok (.iload_n 1, 1) := by decide +kernel
theorem dX3_sortRead_5 : decode cX3_sortRead 5 = .ok (.aload_n 0, 1) := by decide +kernel
theorem dX3_sortRead_6 : decode cX3_sortRead 6 = .ok (.getfield 31, 3) := by decide +kernel
theorem dX3_sortRead_9 : decode cX3_sortRead 9 = .ok (.arraylength, 1) := by decide +kernel
theorem dX3_sortRead_10 : decode cX3_sortRead 10 = .ok (.if_icmp .ge 12, 3) := by decide +kernel
theorem dX3_sortRead_13 : decode cX3_sortRead 13 = .ok (.aload_n 0, 1) := by decide +kernel
theorem dX3_sortRead_14 : decode cX3_sortRead 14 = .ok (.getfield 31, 3) := by decide +kernel
theorem dX3_sortRead_17 : decode cX3_sortRead 17 = .ok (.iload_n 1, 1) := by decide +kernel
theorem dX3_sortRead_18 : decode cX3_sortRead 18 = .ok (.iaload, 1) := by decide +kernel
theorem dX3_sortRead_19 : decode cX3_sortRead 19 = .ok (.goto 4, 3) := by decide +kernel
theorem dX3_sortRead_22 : decode cX3_sortRead 22 = .ok (.iconst (-1), 1) := by decide +kernel
theorem dX3_sortRead_23 : decode cX3_sortRead 23 = .ok (.ireturn, 1) := by decide +kernel
theorem dX3_waysOfLetters_0 : decode cX3_waysOfLetters 0 = .ok (.aload_n 0, 1) := by decide +kernel
theorem dX3_waysOfLetters_1 : decode cX3_waysOfLetters 1 = .ok (.aload_n 1, 1) := by decide +kernel
theorem dX3_waysOfLetters_2 : decode cX3_waysOfLetters 2 = .ok (.aload_n 2, 1) := by decide +kernel
theorem dX3_waysOfLetters_3 : decode cX3_waysOfLetters 3 = .ok (.iload_n 3, 1) := by decide +kernel
theorem dX3_waysOfLetters_4 : decode cX3_waysOfLetters 4 = .ok (.invokevirtual 128, 3) := by decide +kernel
theorem dX3_waysOfLetters_7 : decode cX3_waysOfLetters 7 = .ok (.aload_n 0, 1) := by decide +kernel
theorem dX3_waysOfLetters_8 : decode cX3_waysOfLetters 8 = .ok (.getfield 37, 3) := by decide +kernel
theorem dX3_waysOfLetters_11 : decode cX3_waysOfLetters 11 = .ok (.iconst 0, 1) := by decide +kernel
theorem dX3_waysOfLetters_12 : decode cX3_waysOfLetters 12 = .ok (.lconst 1, 1) := by decide +kernel
theorem dX3_waysOfLetters_13 : decode cX3_waysOfLetters 13 = .ok (.lastore, 1) := by decide +kernel
theorem dX3_waysOfLetters_14 : decode cX3_waysOfLetters 14 = .ok (.iconst 1, 1) := by decide +kernel
theorem dX3_waysOfLetters_15 : decode cX3_waysOfLetters 15 = .ok (.istore 4, 2) := by decide +kernel
theorem dX3_waysOfLetters_17 : decode cX3_waysOfLetters 17 = .ok (.iload 4, 2) := by decide +kernel
theorem dX3_waysOfLetters_19 : decode cX3_waysOfLetters 19 = .ok (.aload_n 0, 1) := by decide +kernel
theorem dX3_waysOfLetters_20 : decode cX3_waysOfLetters 20 = .ok (.getfield 132, 3) := by decide +kernel
theorem dX3_waysOfLetters_23 : decode cX3_waysOfLetters 23 = .ok (.if_icmp .gt 91, 3) := by decide +kernel
theorem dX3_waysOfLetters_26 : decode cX3_waysOfLetters 26 = .ok (.aload_n 0, 1) := by decide +kernel
theorem dX3_waysOfLetters_27 : decode cX3_waysOfLetters 27 = .ok (.getfield 37, 3) := by decide +kernel
theorem dX3_waysOfLetters_30 : decode cX3_waysOfLetters 30 = .ok (.iload 4, 2) := by decide +kernel
theorem dX3_waysOfLetters_32 : decode cX3_waysOfLetters 32 = .ok (.lconst 0, 1) := by decide +kernel
theorem dX3_waysOfLetters_33 : decode cX3_waysOfLetters 33 = .ok (.lastore, 1) := by decide +kernel
theorem dX3_waysOfLetters_34 : decode cX3_waysOfLetters 34 = .ok (.iconst 0, 1) := by decide +kernel
theorem dX3_waysOfLetters_35 : decode cX3_waysOfLetters 35 = .ok (.istore 5, 2) := by decide +kernel
theorem dX3_waysOfLetters_37 : decode cX3_waysOfLetters 37 = .ok (.iload 5, 2) := by decide +kernel
theorem dX3_waysOfLetters_39 : decode cX3_waysOfLetters 39 = .ok (.aload_n 1, 1) := by decide +kernel
theorem dX3_waysOfLetters_40 : decode cX3_waysOfLetters 40 = .ok (.getfield 135, 3) := by decide +kernel
theorem dX3_waysOfLetters_43 : decode cX3_waysOfLetters 43 = .ok (.if_icmp .ge 65, 3) := by decide +kernel
theorem dX3_waysOfLetters_46 : decode cX3_waysOfLetters 46 = .ok (.iload 4, 2) := by decide +kernel
theorem dX3_waysOfLetters_48 : decode cX3_waysOfLetters 48 = .ok (.aload_n 0, 1) := by decide +kernel
theorem dX3_waysOfLetters_49 : decode cX3_waysOfLetters 49 = .ok (.iload 4, 2) := by decide +kernel
theorem dX3_waysOfLetters_51 : decode cX3_waysOfLetters 51 = .ok (.aload_n 1, 1) := by decide +kernel
theorem dX3_waysOfLetters_52 : decode cX3_waysOfLetters 52 = .ok (.getfield 138, 3) := by decide +kernel
theorem dX3_waysOfLetters_55 : decode cX3_waysOfLetters 55 = .ok (.bipush 8, 2) := by decide +kernel
theorem dX3_waysOfLetters_57 : decode cX3_waysOfLetters 57 = .ok (.iload 5, 2) := by decide +kernel
theorem dX3_waysOfLetters_59 : decode cX3_waysOfLetters 59 = .ok (.iadd, 1) := by decide +kernel
theorem dX3_waysOfLetters_60 : decode cX3_waysOfLetters 60 = .ok (.iaload, 1) := by decide +kernel
theorem dX3_waysOfLetters_61 : decode cX3_waysOfLetters 61 = .ok (.invokevirtual 141, 3) := by decide +kernel
theorem dX3_waysOfLetters_64 : decode cX3_waysOfLetters 64 = .ok (.isub, 1) := by decide +kernel
theorem dX3_waysOfLetters_65 : decode cX3_waysOfLetters 65 = .ok (.istore 6, 2) := by decide +kernel
theorem dX3_waysOfLetters_67 : decode cX3_waysOfLetters 67 = .ok (.iload 6, 2) := by decide +kernel
theorem dX3_waysOfLetters_69 : decode cX3_waysOfLetters 69 = .ok (.iload 4, 2) := by decide +kernel
theorem dX3_waysOfLetters_71 : decode cX3_waysOfLetters 71 = .ok (.if_icmp .ge 31, 3) := by decide +kernel
theorem dX3_waysOfLetters_74 : decode cX3_waysOfLetters 74 = .ok (.aload_n 0, 1) := by decide +kernel
theorem dX3_waysOfLetters_75 : decode cX3_waysOfLetters 75 = .ok (.getfield 37, 3) := by decide +kernel
theorem dX3_waysOfLetters_78 : decode cX3_waysOfLetters 78 = .ok (.iload 4, 2) := by decide +kernel
theorem dX3_waysOfLetters_80 : decode cX3_waysOfLetters 80 = .ok (.ldc2_w 145, 3) := by decide +kernel
theorem dX3_waysOfLetters_83 : decode cX3_waysOfLetters 83 = .ok (.aload_n 0, 1) := by decide +kernel
theorem dX3_waysOfLetters_84 : decode cX3_waysOfLetters 84 = .ok (.getfield 37, 3) := by decide +kernel
theorem dX3_waysOfLetters_87 : decode cX3_waysOfLetters 87 = .ok (.iload 4, 2) := by decide +kernel
theorem dX3_waysOfLetters_89 : decode cX3_waysOfLetters 89 = .ok (.laload, 1) := by decide +kernel
theorem dX3_waysOfLetters_90 : decode cX3_waysOfLetters 90 = .ok (.aload_n 0, 1) := by decide +kernel
theorem dX3_waysOfLetters_91 : decode cX3_waysOfLetters 91 = .ok (.getfield 37, 3) := by decide +kernel
theorem dX3_waysOfLetters_94 : decode cX3_waysOfLetters 94 = .ok (.iload 6, 2) := by decide +kernel
theorem dX3_waysOfLetters_96 : decode cX3_waysOfLetters 96 = .ok (.laload, 1) := by decide +kernel
theorem dX3_waysOfLetters_97 : decode cX3_waysOfLetters 97 = .ok (.ladd, 1) := by decide +kernel
theorem dX3_waysOfLetters_98 : decode cX3_waysOfLetters 98 = .ok (.invokestatic 147, 3) := by decide +kernel
theorem dX3_waysOfLetters_101 : decode cX3_waysOfLetters 101 = .ok (.lastore, 1) := by decide +kernel
theorem dX3_waysOfLetters_102 : decode cX3_waysOfLetters 102 = .ok (.iinc 5 1, 3) := by decide +kernel
theorem dX3_waysOfLetters_105 : decode cX3_waysOfLetters 105 = .ok (.goto (-68), 3) := by decide +kernel
theorem dX3_waysOfLetters_108 : decode cX3_waysOfLetters 108 = .ok (.iinc 4 1, 3) := by decide +kernel
theorem dX3_waysOfLetters_111 : decode cX3_waysOfLetters 111 = .ok (.goto (-94), 3) := by decide +kernel
theorem dX3_waysOfLetters_114 : decode cX3_waysOfLetters 114 = .ok (.aload_n 0, 1) := by decide +kernel
theorem dX3_waysOfLetters_115 : decode cX3_waysOfLetters 115 = .ok (.getfield 37, 3) := by decide +kernel
theorem dX3_waysOfLetters_118 : decode cX3_waysOfLetters 118 = .ok (.aload_n 0, 1) := by decide +kernel
theorem dX3_waysOfLetters_119 : decode cX3_waysOfLetters 119 = .ok (.getfield 132, 3) := by decide +kernel
theorem dX3_waysOfLetters_122 : decode cX3_waysOfLetters 122 = .ok (.laload, 1) := by decide +kernel
theorem dX3_waysOfLetters_123 : decode cX3_waysOfLetters 123 = .ok (.lreturn, 1) := by decide +kernel
theorem dX3_strikeLetters_0 : decode cX3_strikeLetters 0 = .ok (.aload_n 0, 1) := by decide +kernel
theorem dX3_strikeLetters_1 : decode cX3_strikeLetters 1 = .ok (.iconst 0, 1) := by decide +kernel
theorem dX3_strikeLetters_2 : decode cX3_strikeLetters 2 = .ok (.putfield 132, 3) := by decide +kernel
theorem dX3_strikeLetters_5 : decode cX3_strikeLetters 5 = .ok (.iconst 0, 1) := by decide +kernel
theorem dX3_strikeLetters_6 : decode cX3_strikeLetters 6 = .ok (.istore 4, 2) := by decide +kernel
theorem dX3_strikeLetters_8 : decode cX3_strikeLetters 8 = .ok (.iconst 0, 1) := by decide +kernel
theorem dX3_strikeLetters_9 : decode cX3_strikeLetters 9 = .ok (.istore 5, 2) := by decide +kernel
theorem dX3_strikeLetters_11 : decode cX3_strikeLetters 11 = .ok (.iload 5, 2) := by decide +kernel
theorem dX3_strikeLetters_13 : decode cX3_strikeLetters 13 = .ok (.aload_n 2, 1) := by decide +kernel
theorem dX3_strikeLetters_14 : decode cX3_strikeLetters 14 = .ok (.getfield 40, 3) := by decide +kernel
theorem dX3_strikeLetters_17 : decode cX3_strikeLetters 17 = .ok (.if_icmp .ge 103, 3) := by decide +kernel
theorem dX3_strikeLetters_20 : decode cX3_strikeLetters 20 = .ok (.aload_n 1, 1) := by decide +kernel
theorem dX3_strikeLetters_21 : decode cX3_strikeLetters 21 = .ok (.getfield 138, 3) := by decide +kernel
theorem dX3_strikeLetters_24 : decode cX3_strikeLetters 24 = .ok (.bipush 8, 2) := by decide +kernel
theorem dX3_strikeLetters_26 : decode cX3_strikeLetters 26 = .ok (.aload_n 2, 1) := by decide +kernel
theorem dX3_strikeLetters_27 : decode cX3_strikeLetters 27 = .ok (.getfield 65, 3) := by decide +kernel
theorem dX3_strikeLetters_30 : decode cX3_strikeLetters 30 = .ok (.iload 5, 2) := by decide +kernel
theorem dX3_strikeLetters_32 : decode cX3_strikeLetters 32 = .ok (.iaload, 1) := by decide +kernel
theorem dX3_strikeLetters_33 : decode cX3_strikeLetters 33 = .ok (.iadd, 1) := by decide +kernel
theorem dX3_strikeLetters_34 : decode cX3_strikeLetters 34 = .ok (.iaload, 1) := by decide +kernel
theorem dX3_strikeLetters_35 : decode cX3_strikeLetters 35 = .ok (.istore 6, 2) := by decide +kernel
theorem dX3_strikeLetters_37 : decode cX3_strikeLetters 37 = .ok (.iconst 5, 1) := by decide +kernel
theorem dX3_strikeLetters_38 : decode cX3_strikeLetters 38 = .ok (.istore 7, 2) := by decide +kernel
theorem dX3_strikeLetters_40 : decode cX3_strikeLetters 40 = .ok (.iload 7, 2) := by decide +kernel
theorem dX3_strikeLetters_42 : decode cX3_strikeLetters 42 = .ok (.ifCond .lt 72, 3) := by decide +kernel
theorem dX3_strikeLetters_45 : decode cX3_strikeLetters 45 = .ok (.iload 6, 2) := by decide +kernel
theorem dX3_strikeLetters_47 : decode cX3_strikeLetters 47 = .ok (.iload 7, 2) := by decide +kernel
theorem dX3_strikeLetters_49 : decode cX3_strikeLetters 49 = .ok (.invokestatic 153, 3) := by decide +kernel
theorem dX3_strikeLetters_52 : decode cX3_strikeLetters 52 = .ok (.istore 8, 2) := by decide +kernel
theorem dX3_strikeLetters_54 : decode cX3_strikeLetters 54 = .ok (.iload 4, 2) := by decide +kernel
theorem dX3_strikeLetters_56 : decode cX3_strikeLetters 56 = .ok (.iload 8, 2) := by decide +kernel
theorem dX3_strikeLetters_58 : decode cX3_strikeLetters 58 = .ok (.ifCond .ne 7, 3) := by decide +kernel
theorem dX3_strikeLetters_61 : decode cX3_strikeLetters 61 = .ok (.iconst 0, 1) := by decide +kernel
theorem dX3_strikeLetters_62 : decode cX3_strikeLetters 62 = .ok (.goto 4, 3) := by decide +kernel
theorem dX3_strikeLetters_65 : decode cX3_strikeLetters 65 = .ok (.iconst 1, 1) := by decide +kernel
theorem dX3_strikeLetters_66 : decode cX3_strikeLetters 66 = .ok (.iadd, 1) := by decide +kernel
theorem dX3_strikeLetters_67 : decode cX3_strikeLetters 67 = .ok (.istore 4, 2) := by decide +kernel
theorem dX3_strikeLetters_69 : decode cX3_strikeLetters 69 = .ok (.iload 8, 2) := by decide +kernel
theorem dX3_strikeLetters_71 : decode cX3_strikeLetters 71 = .ok (.ifCond .eq 37, 3) := by decide +kernel
theorem dX3_strikeLetters_74 : decode cX3_strikeLetters 74 = .ok (.aload_n 1, 1) := by decide +kernel
theorem dX3_strikeLetters_75 : decode cX3_strikeLetters 75 = .ok (.getfield 53, 3) := by decide +kernel
theorem dX3_strikeLetters_78 : decode cX3_strikeLetters 78 = .ok (.iload_n 3, 1) := by decide +kernel
theorem dX3_strikeLetters_79 : decode cX3_strikeLetters 79 = .ok (.iload 4, 2) := by decide +kernel
theorem dX3_strikeLetters_81 : decode cX3_strikeLetters 81 = .ok (.invokevirtual 59, 3) := by decide +kernel
theorem dX3_strikeLetters_84 : decode cX3_strikeLetters 84 = .ok (.ifCond .ne 24, 3) := by decide +kernel
theorem dX3_strikeLetters_87 : decode cX3_strikeLetters 87 = .ok (.aload_n 0, 1) := by decide +kernel
theorem dX3_strikeLetters_88 : decode cX3_strikeLetters 88 = .ok (.getfield 34, 3) := by decide +kernel
theorem dX3_strikeLetters_91 : decode cX3_strikeLetters 91 = .ok (.aload_n 0, 1) := by decide +kernel
theorem dX3_strikeLetters_92 : decode cX3_strikeLetters 92 = .ok (.getfield 132, 3) := by decide +kernel
theorem dX3_strikeLetters_95 : decode cX3_strikeLetters 95 = .ok (.iload 8, 2) := by decide +kernel
theorem dX3_strikeLetters_97 : decode cX3_strikeLetters 97 = .ok (.iastore, 1) := by decide +kernel
theorem dX3_strikeLetters_98 : decode cX3_strikeLetters 98 = .ok (.aload_n 0, 1) := by decide +kernel
theorem dX3_strikeLetters_99 : decode cX3_strikeLetters 99 = .ok (.dup, 1) := by decide +kernel
theorem dX3_strikeLetters_100 : decode cX3_strikeLetters 100 = .ok (.getfield 132, 3) := by decide +kernel
theorem dX3_strikeLetters_103 : decode cX3_strikeLetters 103 = .ok (.iconst 1, 1) := by decide +kernel
theorem dX3_strikeLetters_104 : decode cX3_strikeLetters 104 = .ok (.iadd, 1) := by decide +kernel
theorem dX3_strikeLetters_105 : decode cX3_strikeLetters 105 = .ok (.putfield 132, 3) := by decide +kernel
theorem dX3_strikeLetters_108 : decode cX3_strikeLetters 108 = .ok (.iinc 7 (-1), 3) := by decide +kernel
theorem dX3_strikeLetters_111 : decode cX3_strikeLetters 111 = .ok (.goto (-71), 3) := by decide +kernel
theorem dX3_strikeLetters_114 : decode cX3_strikeLetters 114 = .ok (.iinc 5 1, 3) := by decide +kernel
theorem dX3_strikeLetters_117 : decode cX3_strikeLetters 117 = .ok (.goto (-106), 3) := by decide +kernel
theorem dX3_strikeLetters_120 : decode cX3_strikeLetters 120 = .ok (.return_, 1) := by decide +kernel
theorem dX3_lettersBefore_0 : decode cX3_lettersBefore 0 = .ok (.iconst 0, 1) := by decide +kernel
theorem dX3_lettersBefore_1 : decode cX3_lettersBefore 1 = .ok (.istore_n 3, 1) := by decide +kernel
theorem dX3_lettersBefore_2 : decode cX3_lettersBefore 2 = .ok (.iload_n 3, 1) := by decide +kernel
theorem dX3_lettersBefore_3 : decode cX3_lettersBefore 3 = .ok (.bipush 6, 2) := by decide +kernel
theorem dX3_lettersBefore_5 : decode cX3_lettersBefore 5 = .ok (.if_icmp .ge 46, 3) := by decide +kernel
theorem dX3_lettersBefore_8 : decode cX3_lettersBefore 8 = .ok (.iload_n 2, 1) := by decide +kernel
theorem dX3_lettersBefore_9 : decode cX3_lettersBefore 9 = .ok (.iload_n 3, 1) := by decide +kernel
theorem dX3_lettersBefore_10 : decode cX3_lettersBefore 10 = .ok (.invokestatic 153, 3) := by decide +kernel
theorem dX3_lettersBefore_13 : decode cX3_lettersBefore 13 = .ok (.ifCond .eq 38, 3) := by decide +kernel
theorem dX3_lettersBefore_16 : decode cX3_lettersBefore 16 = .ok (.iload_n 1, 1) := by decide +kernel
theorem dX3_lettersBefore_17 : decode cX3_lettersBefore 17 = .ok (.iconst 1, 1) := by decide +kernel
theorem dX3_lettersBefore_18 : decode cX3_lettersBefore 18 = .ok (.isub, 1) := by decide +kernel
theorem dX3_lettersBefore_19 : decode cX3_lettersBefore 19 = .ok (.iload_n 3, 1) := by decide +kernel
theorem dX3_lettersBefore_20 : decode cX3_lettersBefore 20 = .ok (.isub, 1) := by decide +kernel
theorem dX3_lettersBefore_21 : decode cX3_lettersBefore 21 = .ok (.istore 4, 2) := by decide +kernel
theorem dX3_lettersBefore_23 : decode cX3_lettersBefore 23 = .ok (.iload 4, 2) := by decide +kernel
theorem dX3_lettersBefore_25 : decode cX3_lettersBefore 25 = .ok (.ifCond .lt 18, 3) := by decide +kernel
theorem dX3_lettersBefore_28 : decode cX3_lettersBefore 28 = .ok (.aload_n 0, 1) := by decide +kernel
theorem dX3_lettersBefore_29 : decode cX3_lettersBefore 29 = .ok (.getfield 34, 3) := by decide +kernel
theorem dX3_lettersBefore_32 : decode cX3_lettersBefore 32 = .ok (.iload 4, 2) := by decide +kernel
theorem dX3_lettersBefore_34 : decode cX3_lettersBefore 34 = .ok (.iaload, 1) := by decide +kernel
theorem dX3_lettersBefore_35 : decode cX3_lettersBefore 35 = .ok (.iload_n 2, 1) := by decide +kernel
theorem dX3_lettersBefore_36 : decode cX3_lettersBefore 36 = .ok (.iload_n 3, 1) := by decide +kernel
theorem dX3_lettersBefore_37 : decode cX3_lettersBefore 37 = .ok (.invokestatic 153, 3) := by decide +kernel
theorem dX3_lettersBefore_40 : decode cX3_lettersBefore 40 = .ok (.if_icmp .eq 5, 3) := by decide +kernel
theorem dX3_lettersBefore_43 : decode cX3_lettersBefore 43 = .ok (.iconst 0, 1) := by decide +kernel
theorem dX3_lettersBefore_44 : decode cX3_lettersBefore 44 = .ok (.ireturn, 1) := by decide +kernel
theorem dX3_lettersBefore_45 : decode cX3_lettersBefore 45 = .ok (.iinc 3 1, 3) := by decide +kernel
theorem dX3_lettersBefore_48 : decode cX3_lettersBefore 48 = .ok (.goto (-46), 3) := by decide +kernel
theorem dX3_lettersBefore_51 : decode cX3_lettersBefore 51 = .ok (.iload_n 3, 1) := by decide +kernel
theorem dX3_lettersBefore_52 : decode cX3_lettersBefore 52 = .ok (.ireturn, 1) := by decide +kernel
theorem dX4_of_0 : decode cX4_of 0 = .ok (.iconst 0, 1) := by decide +kernel
theorem dX4_of_1 : decode cX4_of 1 = .ok (.istore_n 1, 1) := by decide +kernel
theorem dX4_of_2 : decode cX4_of 2 = .ok (.iload_n 1, 1) := by decide +kernel
theorem dX4_of_3 : decode cX4_of 3 = .ok (.getstatic 91, 3) := by decide +kernel
theorem dX4_of_6 : decode cX4_of 6 = .ok (.arraylength, 1) := by decide +kernel
theorem dX4_of_7 : decode cX4_of 7 = .ok (.if_icmp .ge 27, 3) := by decide +kernel
theorem dX4_of_10 : decode cX4_of 10 = .ok (.getstatic 91, 3) := by decide +kernel
theorem dX4_of_13 : decode cX4_of 13 = .ok (.iload_n 1, 1) := by decide +kernel
theorem dX4_of_14 : decode cX4_of 14 = .ok (.aaload, 1) := by decide +kernel
theorem dX4_of_15 : decode cX4_of 15 = .ok (.getfield 87, 3) := by decide +kernel
theorem dX4_of_18 : decode cX4_of 18 = .ok (.iload_n 0, 1) := by decide +kernel
theorem dX4_of_19 : decode cX4_of 19 = .ok (.if_icmp .ne 9, 3) := by decide +kernel
theorem dX4_of_22 : decode cX4_of 22 = .ok (.getstatic 91, 3) := by decide +kernel
theorem dX4_of_25 : decode cX4_of 25 = .ok (.iload_n 1, 1) := by decide +kernel
theorem dX4_of_26 : decode cX4_of 26 = .ok (.aaload, 1) := by decide +kernel
theorem dX4_of_27 : decode cX4_of 27 = .ok (.areturn, 1) := by decide +kernel
theorem dX4_of_28 : decode cX4_of 28 = .ok (.iinc 1 1, 3) := by decide +kernel
theorem dX4_of_31 : decode cX4_of 31 = .ok (.goto (-29), 3) := by decide +kernel
theorem dX4_of_34 : decode cX4_of 34 = .ok (.aconst_null, 1) := by decide +kernel
theorem dX4_of_35 : decode cX4_of 35 = .ok (.areturn, 1) := by decide +kernel
theorem dX5_init_0 : decode cX5_init 0 = .ok (.aload_n 0, 1) := by decide +kernel
theorem dX5_init_1 : decode cX5_init 1 = .ok (.invokespecial 3, 3) := by decide +kernel
theorem dX5_init_4 : decode cX5_init 4 = .ok (.aload_n 0, 1) := by decide +kernel
theorem dX5_init_5 : decode cX5_init 5 = .ok (.new 9, 3) := by decide +kernel
theorem dX5_init_8 : decode cX5_init 8 = .ok (.dup, 1) := by decide +kernel
theorem dX5_init_9 : decode cX5_init 9 = .ok (.invokespecial 11, 3) := by decide +kernel
theorem dX5_init_12 : decode cX5_init 12 = .ok (.putfield 12, 3) := by decide +kernel
theorem dX5_init_15 : decode cX5_init 15 = .ok (.aload_n 0, 1) := by decide +kernel
theorem dX5_init_16 : decode cX5_init 16 = .ok (.new 18, 3) := by decide +kernel
theorem dX5_init_19 : decode cX5_init 19 = .ok (.dup, 1) := by decide +kernel
theorem dX5_init_20 : decode cX5_init 20 = .ok (.bipush 24, 2) := by decide +kernel
theorem dX5_init_22 : decode cX5_init 22 = .ok (.invokespecial 20, 3) := by decide +kernel
theorem dX5_init_25 : decode cX5_init 25 = .ok (.putfield 23, 3) := by decide +kernel
theorem dX5_init_28 : decode cX5_init 28 = .ok (.aload_n 0, 1) := by decide +kernel
theorem dX5_init_29 : decode cX5_init 29 = .ok (.bipush 10, 2) := by decide +kernel
theorem dX5_init_31 : decode cX5_init 31 = .ok (.anewarray 18, 3) := by decide +kernel
theorem dX5_init_34 : decode cX5_init 34 = .ok (.putfield 27, 3) := by decide +kernel
theorem dX5_init_37 : decode cX5_init 37 = .ok (.iconst 0, 1) := by decide +kernel
theorem dX5_init_38 : decode cX5_init 38 = .ok (.istore_n 1, 1) := by decide +kernel
theorem dX5_init_39 : decode cX5_init 39 = .ok (.iload_n 1, 1) := by decide +kernel
theorem dX5_init_40 : decode cX5_init 40 = .ok (.bipush 10, 2) := by decide +kernel
theorem dX5_init_42 : decode cX5_init 42 = .ok (.if_icmp .ge 24, 3) := by decide +kernel
theorem dX5_init_45 : decode cX5_init 45 = .ok (.aload_n 0, 1) := by decide +kernel
theorem dX5_init_46 : decode cX5_init 46 = .ok (.getfield 27, 3) := by decide +kernel
theorem dX5_init_49 : decode cX5_init 49 = .ok (.iload_n 1, 1) := by decide +kernel
theorem dX5_init_50 : decode cX5_init 50 = .ok (.new 18, 3) := by decide +kernel
theorem dX5_init_53 : decode cX5_init 53 = .ok (.dup, 1) := by decide +kernel
theorem dX5_init_54 : decode cX5_init 54 = .ok (.bipush 24, 2) := by decide +kernel
theorem dX5_init_56 : decode cX5_init 56 = .ok (.invokespecial 20, 3) := by decide +kernel
theorem dX5_init_59 : decode cX5_init 59 = .ok (.aastore, 1) := by decide +kernel
theorem dX5_init_60 : decode cX5_init 60 = .ok (.iinc 1 1, 3) := by decide +kernel
theorem dX5_init_63 : decode cX5_init 63 = .ok (.goto (-24), 3) := by decide +kernel
theorem dX5_init_66 : decode cX5_init 66 = .ok (.return_, 1) := by decide +kernel
theorem dX5_begin_0 : decode cX5_begin 0 = .ok (.aload_n 0, 1) := by decide +kernel
theorem dX5_begin_1 : decode cX5_begin 1 = .ok (.getfield 12, 3) := by decide +kernel
theorem dX5_begin_4 : decode cX5_begin 4 = .ok (.aload_n 1, 1) := by decide +kernel
theorem dX5_begin_5 : decode cX5_begin 5 = .ok (.invokevirtual 31, 3) := by decide +kernel
theorem dX5_begin_8 : decode cX5_begin 8 = .ok (.aload_n 0, 1) := by decide +kernel
theorem dX5_begin_9 : decode cX5_begin 9 = .ok (.getfield 23, 3) := by decide +kernel
theorem dX5_begin_12 : decode cX5_begin 12 = .ok (.iconst 0, 1) := by decide +kernel
theorem dX5_begin_13 : decode cX5_begin 13 = .ok (.putfield 35, 3) := by decide +kernel
theorem dX5_begin_16 : decode cX5_begin 16 = .ok (.aload_n 0, 1) := by decide +kernel
theorem dX5_begin_17 : decode cX5_begin 17 = .ok (.iconst 0, 1) := by decide +kernel
theorem dX5_begin_18 : decode cX5_begin 18 = .ok (.putfield 39, 3) := by decide +kernel
theorem dX5_begin_21 : decode cX5_begin 21 = .ok (.return_, 1) := by decide +kernel
theorem dX5_copyFrom_0 : decode cX5_copyFrom 0 = .ok (.aload_n 0, 1) := by decide +kernel
theorem dX5_copyFrom_1 : decode cX5_copyFrom 1 = .ok (.getfield 12, 3) := by decide +kernel
theorem dX5_copyFrom_4 : decode cX5_copyFrom 4 = .ok (.aload_n 1, 1) := by decide +kernel
theorem dX5_copyFrom_5 : decode cX5_copyFrom 5 = .ok (.getfield 12, 3) := by decide +kernel
theorem dX5_copyFrom_8 : decode cX5_copyFrom 8 = .ok (.invokevirtual 31, 3) := by decide +kernel
theorem dX5_copyFrom_11 : decode cX5_copyFrom 11 = .ok (.aload_n 0, 1) := by decide +kernel
theorem dX5_copyFrom_12 : decode cX5_copyFrom 12 = .ok (.getfield 23, 3) := by decide +kernel
theorem dX5_copyFrom_15 : decode cX5_copyFrom 15 = .ok (.aload_n 1, 1) := by decide +kernel
theorem dX5_copyFrom_16 : decode cX5_copyFrom 16 = .ok (.getfield 23, 3) := by decide +kernel
theorem dX5_copyFrom_19 : decode cX5_copyFrom 19 = .ok (.invokevirtual 42, 3) := by decide +kernel
theorem dX5_copyFrom_22 : decode cX5_copyFrom 22 = .ok (.aload_n 0, 1) := by decide +kernel
theorem dX5_copyFrom_23 : decode cX5_copyFrom 23 = .ok (.aload_n 1, 1) := by decide +kernel
theorem dX5_copyFrom_24 : decode cX5_copyFrom 24 = .ok (.getfield 39, 3) := by decide +kernel
theorem dX5_copyFrom_27 : decode cX5_copyFrom 27 = .ok (.putfield 39, 3) := by decide +kernel
theorem dX5_copyFrom_30 : decode cX5_copyFrom 30 = .ok (.iconst 0, 1) := by decide +kernel
theorem dX5_copyFrom_31 : decode cX5_copyFrom 31 = .ok (.istore_n 2, 1) := by decide +kernel
theorem dX5_copyFrom_32 : decode cX5_copyFrom 32 = .ok (.iload_n 2, 1) := by decide +kernel
theorem dX5_copyFrom_33 : decode cX5_copyFrom 33 = .ok (.aload_n 0, 1) := by decide +kernel
theorem dX5_copyFrom_34 : decode cX5_copyFrom 34 = .ok (.getfield 39, 3) := by decide +kernel
theorem dX5_copyFrom_37 : decode cX5_copyFrom 37 = .ok (.if_icmp .ge 24, 3) := by decide +kernel
theorem dX5_copyFrom_40 : decode cX5_copyFrom 40 = .ok (.aload_n 0, 1) := by decide +kernel
theorem dX5_copyFrom_41 : decode cX5_copyFrom 41 = .ok (.getfield 27, 3) := by decide +kernel
theorem dX5_copyFrom_44 : decode cX5_copyFrom 44 = .ok (.iload_n 2, 1) := by decide +kernel
theorem dX5_copyFrom_45 : decode cX5_copyFrom 45 = .ok (.aaload, 1) := by decide +kernel
theorem dX5_copyFrom_46 : decode cX5_copyFrom 46 = .ok (.aload_n 1, 1) := by decide +kernel
theorem dX5_copyFrom_47 : decode cX5_copyFrom 47 = .ok (.getfield 27, 3) := by decide +kernel
theorem dX5_copyFrom_50 : decode cX5_copyFrom 50 = .ok (.iload_n 2, 1) := by decide +kernel
theorem dX5_copyFrom_51 : decode cX5_copyFrom 51 = .ok (.aaload, 1) := by decide +kernel
theorem dX5_copyFrom_52 : decode cX5_copyFrom 52 = .ok (.invokevirtual 42, 3) := by decide +kernel
theorem dX5_copyFrom_55 : decode cX5_copyFrom 55 = .ok (.iinc 2 1, 3) := by decide +kernel
theorem dX5_copyFrom_58 : decode cX5_copyFrom 58 = .ok (.goto (-26), 3) := by decide +kernel
theorem dX5_copyFrom_61 : decode cX5_copyFrom 61 = .ok (.return_, 1) := by decide +kernel
theorem dX6_init_0 : decode cX6_init 0 = .ok (.aload_n 0, 1) := by decide +kernel
theorem dX6_init_1 : decode cX6_init 1 = .ok (.invokespecial 3, 3) := by decide +kernel
theorem dX6_init_4 : decode cX6_init 4 = .ok (.aload_n 0, 1) := by decide +kernel
theorem dX6_init_5 : decode cX6_init 5 = .ok (.new 9, 3) := by decide +kernel
theorem dX6_init_8 : decode cX6_init 8 = .ok (.dup, 1) := by decide +kernel
theorem dX6_init_9 : decode cX6_init 9 = .ok (.invokespecial 11, 3) := by decide +kernel
theorem dX6_init_12 : decode cX6_init 12 = .ok (.putfield 12, 3) := by decide +kernel
theorem dX6_init_15 : decode cX6_init 15 = .ok (.return_, 1) := by decide +kernel
theorem dX6_readTongue_0 : decode cX6_readTongue 0 = .ok (.aload_n 0, 1) := by decide +kernel
theorem dX6_readTongue_1 : decode cX6_readTongue 1 = .ok (.aload_n 1, 1) := by decide +kernel
theorem dX6_readTongue_2 : decode cX6_readTongue 2 = .ok (.aload_n 2, 1) := by decide +kernel
theorem dX6_readTongue_3 : decode cX6_readTongue 3 = .ok (.sipush 900, 3) := by decide +kernel
theorem dX6_readTongue_6 : decode cX6_readTongue 6 = .ok (.invokevirtual 18, 3) := by decide +kernel
theorem dX6_readTongue_9 : decode cX6_readTongue 9 = .ok (.aload_n 2, 1) := by decide +kernel
theorem dX6_readTongue_10 : decode cX6_readTongue 10 = .ok (.invokevirtual 22, 3) := by decide +kernel
theorem dX6_readTongue_13 : decode cX6_readTongue 13 = .ok (.aload_n 0, 1) := by decide +kernel
theorem dX6_readTongue_14 : decode cX6_readTongue 14 = .ok (.iconst 0, 1) := by decide +kernel
theorem dX6_readTongue_15 : decode cX6_readTongue 15 = .ok (.putfield 27, 3) := by decide +kernel
theorem dX6_readTongue_18 : decode cX6_readTongue 18 = .ok (.aload_n 0, 1) := by decide +kernel
theorem dX6_readTongue_19 : decode cX6_readTongue 19 = .ok (.iconst 0, 1) := by decide +kernel
theorem dX6_readTongue_20 : decode cX6_readTongue 20 = .ok (.putfield 31, 3) := by decide +kernel
theorem dX6_readTongue_23 : decode cX6_readTongue 23 = .ok (.iconst 0, 1) := by decide +kernel
theorem dX6_readTongue_24 : decode cX6_readTongue 24 = .ok (.istore_n 3, 1) := by decide +kernel
theorem dX6_readTongue_25 : decode cX6_readTongue 25 = .ok (.iload_n 3, 1) := by decide +kernel
theorem dX6_readTongue_26 : decode cX6_readTongue 26 = .ok (.sipush 900, 3) := by decide +kernel
theorem dX6_readTongue_29 : decode cX6_readTongue 29 = .ok (.if_icmp .ge 33, 3) := by decide +kernel
theorem dX6_readTongue_32 : decode cX6_readTongue 32 = .ok (.aload_n 0, 1) := by decide +kernel
theorem dX6_readTongue_33 : decode cX6_readTongue 33 = .ok (.getfield 12, 3) := by decide +kernel
theorem dX6_readTongue_36 : decode cX6_readTongue 36 = .ok (.getfield 35, 3) := by decide +kernel
theorem dX6_readTongue_39 : decode cX6_readTongue 39 = .ok (.ifCond .eq 23, 3) := by decide +kernel
theorem dX6_readTongue_42 : decode cX6_readTongue 42 = .ok (.aload_n 0, 1) := by decide +kernel
theorem dX6_readTongue_43 : decode cX6_readTongue 43 = .ok (.invokevirtual 38, 3) := by decide +kernel
theorem dX6_readTongue_46 : decode cX6_readTongue 46 = .ok (.ifCond .ne 10, 3) := by decide +kernel
theorem dX6_readTongue_49 : decode cX6_readTongue 49 = .ok (.iconst (-1), 1) := by decide +kernel
theorem dX6_readTongue_50 : decode cX6_readTongue 50 = .ok (.aload_n 0, 1) := by decide +kernel
theorem dX6_readTongue_51 : decode cX6_readTongue 51 = .ok (.getfield 42, 3) := by decide +kernel
theorem dX6_readTongue_54 : decode cX6_readTongue 54 = .ok (.isub, 1) := by decide +kernel
theorem dX6_readTongue_55 : decode cX6_readTongue 55 = .ok (.ireturn, 1) := by decide +kernel
theorem dX6_readTongue_56 : decode cX6_readTongue 56 = .ok (.iinc 3 1, 3) := by decide +kernel
theorem dX6_readTongue_59 : decode cX6_readTongue 59 = .ok (.goto (-34), 3) := by decide +kernel
theorem dX6_readTongue_62 : decode cX6_readTongue 62 = .ok (.aload_n 0, 1) := by decide +kernel
theorem dX6_readTongue_63 : decode cX6_readTongue 63 = .ok (.getfield 12, 3) := by decide +kernel
theorem dX6_readTongue_66 : decode cX6_readTongue 66 = .ok (.invokevirtual 45, 3) := by decide +kernel
theorem dX6_readTongue_69 : decode cX6_readTongue 69 = .ok (.ifCond .eq 16, 3) := by decide +kernel
theorem dX6_readTongue_72 : decode cX6_readTongue 72 = .ok (.aload_n 0, 1) := by decide +kernel
theorem dX6_readTongue_73 : decode cX6_readTongue 73 = .ok (.iconst 1, 1) := by decide +kernel
theorem dX6_readTongue_74 : decode cX6_readTongue 74 = .ok (.invokevirtual 48, 3) := by decide +kernel
theorem dX6_readTongue_77 : decode cX6_readTongue 77 = .ok (.pop, 1) := by decide +kernel
theorem dX6_readTongue_78 : decode cX6_readTongue 78 = .ok (.iconst (-1), 1) := by decide +kernel
theorem dX6_readTongue_79 : decode cX6_readTongue 79 = .ok (.aload_n 0, 1) := by decide +kernel
theorem dX6_readTongue_80 : decode cX6_readTongue 80 = .ok (.getfield 42, 3) := by decide +kernel
theorem dX6_readTongue_83 : decode cX6_readTongue 83 = .ok (.isub, 1) := by decide +kernel
theorem dX6_readTongue_84 : decode cX6_readTongue 84 = .ok (.ireturn, 1) := by decide +kernel
theorem dX6_readTongue_85 : decode cX6_readTongue 85 = .ok (.aload_n 2, 1) := by decide +kernel
theorem dX6_readTongue_86 : decode cX6_readTongue 86 = .ok (.invokevirtual 52, 3) := by decide +kernel
theorem dX6_readTongue_89 : decode cX6_readTongue 89 = .ok (.iload_n 3, 1) := by decide +kernel
theorem dX6_readTongue_90 : decode cX6_readTongue 90 = .ok (.ireturn, 1) := by decide +kernel
theorem dX6_readText_0 : decode cX6_readText 0 = .ok (.aload_n 0, 1) := by decide +kernel
theorem dX6_readText_1 : decode cX6_readText 1 = .ok (.aload_n 1, 1) := by decide +kernel
theorem dX6_readText_2 : decode cX6_readText 2 = .ok (.aload_n 2, 1) := by decide +kernel
theorem dX6_readText_3 : decode cX6_readText 3 = .ok (.sipush 200, 3) := by decide +kernel
theorem dX6_readText_6 : decode cX6_readText 6 = .ok (.invokevirtual 18, 3) := by decide +kernel
theorem dX6_readText_9 : decode cX6_readText 9 = .ok (.aload_n 3, 1) := by decide +kernel
theorem dX6_readText_10 : decode cX6_readText 10 = .ok (.iconst 0, 1) := by decide +kernel
theorem dX6_readText_11 : decode cX6_readText 11 = .ok (.putfield 55, 3) := by decide +kernel
theorem dX6_readText_14 : decode cX6_readText 14 = .ok (.iconst 0, 1) := by decide +kernel
theorem dX6_readText_15 : decode cX6_readText 15 = .ok (.istore 4, 2) := by decide +kernel
theorem dX6_readText_17 : decode cX6_readText 17 = .ok (.iload 4, 2) := by decide +kernel
theorem dX6_readText_19 : decode cX6_readText 19 = .ok (.sipush 200, 3) := by decide +kernel
theorem dX6_readText_22 : decode cX6_readText 22 = .ok (.if_icmp .ge 73, 3) := by decide +kernel
theorem dX6_readText_25 : decode cX6_readText 25 = .ok (.aload_n 0, 1) := by decide +kernel
theorem dX6_readText_26 : decode cX6_readText 26 = .ok (.getfield 12, 3) := by decide +kernel
theorem dX6_readText_29 : decode cX6_readText 29 = .ok (.getfield 35, 3) := by decide +kernel
theorem dX6_readText_32 : decode cX6_readText 32 = .ok (.ifCond .eq 63, 3) := by decide +kernel
theorem dX6_readText_35 : decode cX6_readText 35 = .ok (.aload_n 0, 1) := by decide +kernel
theorem dX6_readText_36 : decode cX6_readText 36 = .ok (.bipush 8, 2) := by decide +kernel
theorem dX6_readText_38 : decode cX6_readText 38 = .ok (.aload_n 2, 1) := by decide +kernel
theorem dX6_readText_39 : decode cX6_readText 39 = .ok (.getfield 60, 3) := by decide +kernel
theorem dX6_readText_42 : decode cX6_readText 42 = .ok (.invokevirtual 63, 3) := by decide +kernel
theorem dX6_readText_45 : decode cX6_readText 45 = .ok (.istore 5, 2) := by decide +kernel
theorem dX6_readText_47 : decode cX6_readText 47 = .ok (.iload 5, 2) := by decide +kernel
theorem dX6_readText_49 : decode cX6_readText 49 = .ok (.ifCond .lt 20, 3) := by decide +kernel
theorem dX6_readText_52 : decode cX6_readText 52 = .ok (.aload_n 3, 1) := by decide +kernel
theorem dX6_readText_53 : decode cX6_readText 53 = .ok (.getfield 55, 3) := by decide +kernel
theorem dX6_readText_56 : decode cX6_readText 56 = .ok (.bipush 24, 2) := by decide +kernel
theorem dX6_readText_58 : decode cX6_readText 58 = .ok (.if_icmp .lt 18, 3) := by decide +kernel
theorem dX6_readText_61 : decode cX6_readText 61 = .ok (.aload_n 0, 1) := by decide +kernel
theorem dX6_readText_62 : decode cX6_readText 62 = .ok (.iconst 4, 1) := by decide +kernel
theorem dX6_readText_63 : decode cX6_readText 63 = .ok (.invokevirtual 48, 3) := by decide +kernel
theorem dX6_readText_66 : decode cX6_readText 66 = .ok (.ifCond .ne 10, 3) := by decide +kernel
theorem dX6_readText_69 : decode cX6_readText 69 = .ok (.iconst (-1), 1) := by decide +kernel
theorem dX6_readText_70 : decode cX6_readText 70 = .ok (.aload_n 0, 1) := by decide +kernel
theorem dX6_readText_71 : decode cX6_readText 71 = .ok (.getfield 42, 3) := by decide +kernel
theorem dX6_readText_74 : decode cX6_readText 74 = .ok (.isub, 1) := by decide +kernel
theorem dX6_readText_75 : decode cX6_readText 75 = .ok (.ireturn, 1) := by decide +kernel
theorem dX6_readText_76 : decode cX6_readText 76 = .ok (.aload_n 3, 1) := by decide +kernel
theorem dX6_readText_77 : decode cX6_readText 77 = .ok (.iload 5, 2) := by decide +kernel
theorem dX6_readText_79 : decode cX6_readText 79 = .ok (.invokevirtual 67, 3) := by decide +kernel
theorem dX6_readText_82 : decode cX6_readText 82 = .ok (.aload_n 0, 1) := by decide +kernel
theorem dX6_readText_83 : decode cX6_readText 83 = .ok (.getfield 12, 3) := by decide +kernel
theorem dX6_readText_86 : decode cX6_readText 86 = .ok (.invokevirtual 71, 3) := by decide +kernel
theorem dX6_readText_89 : decode cX6_readText 89 = .ok (.iinc 4 1, 3) := by decide +kernel
theorem dX6_readText_92 : decode cX6_readText 92 = .ok (.goto (-75), 3) := by decide +kernel
theorem dX6_readText_95 : decode cX6_readText 95 = .ok (.aload_n 0, 1) := by decide +kernel
theorem dX6_readText_96 : decode cX6_readText 96 = .ok (.getfield 12, 3) := by decide +kernel
theorem dX6_readText_99 : decode cX6_readText 99 = .ok (.invokevirtual 45, 3) := by decide +kernel
theorem dX6_readText_102 : decode cX6_readText 102 = .ok (.ifCond .eq 16, 3) := by decide +kernel
theorem dX6_readText_105 : decode cX6_readText 105 = .ok (.aload_n 0, 1) := by decide +kernel
theorem dX6_readText_106 : decode cX6_readText 106 = .ok (.iconst 1, 1) := by decide +kernel
theorem dX6_readText_107 : decode cX6_readText 107 = .ok (.invokevirtual 48, 3) := by decide +kernel
theorem dX6_readText_110 : decode cX6_readText 110 = .ok (.pop, 1) := by decide +kernel
theorem dX6_readText_111 : decode cX6_readText 111 = .ok (.iconst (-1), 1) := by decide +kernel
theorem dX6_readText_112 : decode cX6_readText 112 = .ok (.aload_n 0, 1) := by decide +kernel
theorem dX6_readText_113 : decode cX6_readText 113 = .ok (.getfield 42, 3) := by decide +kernel
theorem dX6_readText_116 : decode cX6_readText 116 = .ok (.isub, 1) := by decide +kernel
theorem dX6_readText_117 : decode cX6_readText 117 = .ok (.ireturn, 1) := by decide +kernel
theorem dX6_readText_118 : decode cX6_readText 118 = .ok (.aload_n 3, 1) := by decide +kernel
theorem dX6_readText_119 : decode cX6_readText 119 = .ok (.getfield 55, 3) := by decide +kernel
theorem dX6_readText_122 : decode cX6_readText 122 = .ok (.ireturn, 1) := by decide +kernel
theorem dX6_begin_0 : decode cX6_begin 0 = .ok (.aload_n 0, 1) := by decide +kernel
theorem dX6_begin_1 : decode cX6_begin 1 = .ok (.aload_n 2, 1) := by decide +kernel
theorem dX6_begin_2 : decode cX6_begin 2 = .ok (.putfield 74, 3) := by decide +kernel
theorem dX6_begin_5 : decode cX6_begin 5 = .ok (.aload_n 0, 1) := by decide +kernel
theorem dX6_begin_6 : decode cX6_begin 6 = .ok (.iconst 0, 1) := by decide +kernel
theorem dX6_begin_7 : decode cX6_begin 7 = .ok (.putfield 78, 3) := by decide +kernel
theorem dX6_begin_10 : decode cX6_begin 10 = .ok (.aload_n 0, 1) := by decide +kernel
theorem dX6_begin_11 : decode cX6_begin 11 = .ok (.iconst 0, 1) := by decide +kernel
theorem dX6_begin_12 : decode cX6_begin 12 = .ok (.putfield 42, 3) := by decide +kernel
theorem dX6_begin_15 : decode cX6_begin 15 = .ok (.aload_n 0, 1) := by decide +kernel
theorem dX6_begin_16 : decode cX6_begin 16 = .ok (.getfield 12, 3) := by decide +kernel
theorem dX6_begin_19 : decode cX6_begin 19 = .ok (.aload_n 1, 1) := by decide +kernel
theorem dX6_begin_20 : decode cX6_begin 20 = .ok (.iload_n 3, 1) := by decide +kernel
theorem dX6_begin_21 : decode cX6_begin 21 = .ok (.invokevirtual 81, 3) := by decide +kernel
theorem dX6_begin_24 : decode cX6_begin 24 = .ok (.return_, 1) := by decide +kernel
theorem dX6_refuse_0 : decode cX6_refuse 0 = .ok (.aload_n 0, 1) := by decide +kernel
theorem dX6_refuse_1 : decode cX6_refuse 1 = .ok (.iload_n 1, 1) := by decide +kernel
theorem dX6_refuse_2 : decode cX6_refuse 2 = .ok (.putfield 78, 3) := by decide +kernel
theorem dX6_refuse_5 : decode cX6_refuse 5 = .ok (.aload_n 0, 1) := by decide +kernel
theorem dX6_refuse_6 : decode cX6_refuse 6 = .ok (.aload_n 0, 1) := by decide +kernel
theorem dX6_refuse_7 : decode cX6_refuse 7 = .ok (.getfield 12, 3) := by decide +kernel
theorem dX6_refuse_10 : decode cX6_refuse 10 = .ok (.getfield 84, 3) := by decide +kernel
theorem dX6_refuse_13 : decode cX6_refuse 13 = .ok (.putfield 42, 3) := by decide +kernel
theorem dX6_refuse_16 : decode cX6_refuse 16 = .ok (.iconst 0, 1) := by decide +kernel
theorem dX6_refuse_17 : decode cX6_refuse 17 = .ok (.ireturn, 1) := by decide +kernel
theorem dX6_readLine_0 : decode cX6_readLine 0 = .ok (.aload_n 0, 1) := by decide +kernel
theorem dX6_readLine_1 : decode cX6_readLine 1 = .ok (.getfield 12, 3) := by decide +kernel
theorem dX6_readLine_4 : decode cX6_readLine 4 = .ok (.getfield 87, 3) := by decide +kernel
theorem dX6_readLine_7 : decode cX6_readLine 7 = .ok (.ifnonnull 9, 3) := by decide +kernel
theorem dX6_readLine_10 : decode cX6_readLine 10 = .ok (.aload_n 0, 1) := by decide +kernel
theorem dX6_readLine_11 : decode cX6_readLine 11 = .ok (.iconst 1, 1) := by decide +kernel
theorem dX6_readLine_12 : decode cX6_readLine 12 = .ok (.invokevirtual 48, 3) := by decide +kernel
theorem dX6_readLine_15 : decode cX6_readLine 15 = .ok (.ireturn, 1) := by decide +kernel
theorem dX6_readLine_16 : decode cX6_readLine 16 = .ok (.getstatic 91, 3) := by decide +kernel
theorem dX6_readLine_19 : decode cX6_readLine 19 = .ok (.aload_n 0, 1) := by decide +kernel
theorem dX6_readLine_20 : decode cX6_readLine 20 = .ok (.getfield 12, 3) := by decide +kernel
theorem dX6_readLine_23 : decode cX6_readLine 23 = .ok (.getfield 87, 3) := by decide +kernel
theorem dX6_readLine_26 : decode cX6_readLine 26 = .ok (.invokevirtual 97, 3) := by decide +kernel
theorem dX6_readLine_29 : decode cX6_readLine 29 = .ok (.iaload, 1) := by decide +kernel
theorem dX6_readLine_30 : decode cX6_readLine 30 = .ok (.tableswitch 182 1 7 #[42, 62, 82, 102, 122, 142, 162], 42) := by decide +kernel
theorem dX6_readLine_72 : decode cX6_readLine 72 = .ok (.aload_n 0, 1) := by decide +kernel
theorem dX6_readLine_73 : decode cX6_readLine 73 = .ok (.invokevirtual 103, 3) := by decide +kernel
theorem dX6_readLine_76 : decode cX6_readLine 76 = .ok (.ifCond .eq 14, 3) := by decide +kernel
theorem dX6_readLine_79 : decode cX6_readLine 79 = .ok (.aload_n 0, 1) := by decide +kernel
theorem dX6_readLine_80 : decode cX6_readLine 80 = .ok (.invokevirtual 106, 3) := by decide +kernel
theorem dX6_readLine_83 : decode cX6_readLine 83 = .ok (.ifCond .eq 7, 3) := by decide +kernel
theorem dX6_readLine_86 : decode cX6_readLine 86 = .ok (.iconst 1, 1) := by decide +kernel
theorem dX6_readLine_87 : decode cX6_readLine 87 = .ok (.goto 4, 3) := by decide +kernel
theorem dX6_readLine_90 : decode cX6_readLine 90 = .ok (.iconst 0, 1) := by decide +kernel
theorem dX6_readLine_91 : decode cX6_readLine 91 = .ok (.ireturn, 1) := by decide +kernel
theorem dX6_readLine_92 : decode cX6_readLine 92 = .ok (.aload_n 0, 1) := by decide +kernel
theorem dX6_readLine_93 : decode cX6_readLine 93 = .ok (.invokevirtual 109, 3) := by decide +kernel
theorem dX6_readLine_96 : decode cX6_readLine 96 = .ok (.ifCond .eq 14, 3) := by decide +kernel
theorem dX6_readLine_99 : decode cX6_readLine 99 = .ok (.aload_n 0, 1) := by decide +kernel
theorem dX6_readLine_100 : decode cX6_readLine 100 = .ok (.invokevirtual 106, 3) := by decide +kernel
theorem dX6_readLine_103 : decode cX6_readLine 103 = .ok (.ifCond .eq 7, 3) := by decide +kernel
theorem dX6_readLine_106 : decode cX6_readLine 106 = .ok (.iconst 1, 1) := by decide +kernel
theorem dX6_readLine_107 : decode cX6_readLine 107 = .ok (.goto 4, 3) := by decide +kernel
theorem dX6_readLine_110 : decode cX6_readLine 110 = .ok (.iconst 0, 1) := by decide +kernel
theorem dX6_readLine_111 : decode cX6_readLine 111 = .ok (.ireturn, 1) := by decide +kernel
theorem dX6_readLine_112 : decode cX6_readLine 112 = .ok (.aload_n 0, 1) := by decide +kernel
theorem dX6_readLine_113 : decode cX6_readLine 113 = .ok (.invokevirtual 112, 3) := by decide +kernel
theorem dX6_readLine_116 : decode cX6_readLine 116 = .ok (.ifCond .eq 14, 3) := by decide +kernel
theorem dX6_readLine_119 : decode cX6_readLine 119 = .ok (.aload_n 0, 1) := by decide +kernel
theorem dX6_readLine_120 : decode cX6_readLine 120 = .ok (.invokevirtual 106, 3) := by decide +kernel
theorem dX6_readLine_123 : decode cX6_readLine 123 = .ok (.ifCond .eq 7, 3) := by decide +kernel
theorem dX6_readLine_126 : decode cX6_readLine 126 = .ok (.iconst 1, 1) := by decide +kernel
theorem dX6_readLine_127 : decode cX6_readLine 127 = .ok (.goto 4, 3) := by decide +kernel
theorem dX6_readLine_130 : decode cX6_readLine 130 = .ok (.iconst 0, 1) := by decide +kernel
theorem dX6_readLine_131 : decode cX6_readLine 131 = .ok (.ireturn, 1) := by decide +kernel
theorem dX6_readLine_132 : decode cX6_readLine 132 = .ok (.aload_n 0, 1) := by decide +kernel
theorem dX6_readLine_133 : decode cX6_readLine 133 = .ok (.invokevirtual 115, 3) := by decide +kernel
theorem dX6_readLine_136 : decode cX6_readLine 136 = .ok (.ifCond .eq 14, 3) := by decide +kernel
theorem dX6_readLine_139 : decode cX6_readLine 139 = .ok (.aload_n 0, 1) := by decide +kernel
theorem dX6_readLine_140 : decode cX6_readLine 140 = .ok (.invokevirtual 106, 3) := by decide +kernel
theorem dX6_readLine_143 : decode cX6_readLine 143 = .ok (.ifCond .eq 7, 3) := by decide +kernel
theorem dX6_readLine_146 : decode cX6_readLine 146 = .ok (.iconst 1, 1) := by decide +kernel
theorem dX6_readLine_147 : decode cX6_readLine 147 = .ok (.goto 4, 3) := by decide +kernel
theorem dX6_readLine_150 : decode cX6_readLine 150 = .ok (.iconst 0, 1) := by decide +kernel
theorem dX6_readLine_151 : decode cX6_readLine 151 = .ok (.ireturn, 1) := by decide +kernel
theorem dX6_readLine_152 : decode cX6_readLine 152 = .ok (.aload_n 0, 1) := by decide +kernel
theorem dX6_readLine_153 : decode cX6_readLine 153 = .ok (.invokevirtual 118, 3) := by decide +kernel
theorem dX6_readLine_156 : decode cX6_readLine 156 = .ok (.ifCond .eq 14, 3) := by decide +kernel
theorem dX6_readLine_159 : decode cX6_readLine 159 = .ok (.aload_n 0, 1) := by decide +kernel
theorem dX6_readLine_160 : decode cX6_readLine 160 = .ok (.invokevirtual 106, 3) := by decide +kernel
theorem dX6_readLine_163 : decode cX6_readLine 163 = .ok (.ifCond .eq 7, 3) := by decide +kernel
theorem dX6_readLine_166 : decode cX6_readLine 166 = .ok (.iconst 1, 1) := by decide +kernel
theorem dX6_readLine_167 : decode cX6_readLine 167 = .ok (.goto 4, 3) := by decide +kernel
theorem dX6_readLine_170 : decode cX6_readLine 170 = .ok (.iconst 0, 1) := by decide +kernel
theorem dX6_readLine_171 : decode cX6_readLine 171 = .ok (.ireturn, 1) := by decide +kernel
theorem dX6_readLine_172 : decode cX6_readLine 172 = .ok (.aload_n 0, 1) := by decide +kernel
theorem dX6_readLine_173 : decode cX6_readLine 173 = .ok (.invokevirtual 121, 3) := by decide +kernel
theorem dX6_readLine_176 : decode cX6_readLine 176 = .ok (.ifCond .eq 14, 3) := by decide +kernel
theorem dX6_readLine_179 : decode cX6_readLine 179 = .ok (.aload_n 0, 1) := by decide +kernel
theorem dX6_readLine_180 : decode cX6_readLine 180 = .ok (.invokevirtual 106, 3) := by decide +kernel
theorem dX6_readLine_183 : decode cX6_readLine 183 = .ok (.ifCond .eq 7, 3) := by decide +kernel
theorem dX6_readLine_186 : decode cX6_readLine 186 = .ok (.iconst 1, 1) := by decide +kernel
theorem dX6_readLine_187 : decode cX6_readLine 187 = .ok (.goto 4, 3) := by decide +kernel
theorem dX6_readLine_190 : decode cX6_readLine 190 = .ok (.iconst 0, 1) := by decide +kernel
theorem dX6_readLine_191 : decode cX6_readLine 191 = .ok (.ireturn, 1) := by decide +kernel
theorem dX6_readLine_192 : decode cX6_readLine 192 = .ok (.aload_n 0, 1) := by decide +kernel
theorem dX6_readLine_193 : decode cX6_readLine 193 = .ok (.invokevirtual 124, 3) := by decide +kernel
theorem dX6_readLine_196 : decode cX6_readLine 196 = .ok (.ifCond .eq 14, 3) := by decide +kernel
theorem dX6_readLine_199 : decode cX6_readLine 199 = .ok (.aload_n 0, 1) := by decide +kernel
theorem dX6_readLine_200 : decode cX6_readLine 200 = .ok (.invokevirtual 106, 3) := by decide +kernel
theorem dX6_readLine_203 : decode cX6_readLine 203 = .ok (.ifCond .eq 7, 3) := by decide +kernel
theorem dX6_readLine_206 : decode cX6_readLine 206 = .ok (.iconst 1, 1) := by decide +kernel
theorem dX6_readLine_207 : decode cX6_readLine 207 = .ok (.goto 4, 3) := by decide +kernel
theorem dX6_readLine_210 : decode cX6_readLine 210 = .ok (.iconst 0, 1) := by decide +kernel
theorem dX6_readLine_211 : decode cX6_readLine 211 = .ok (.ireturn, 1) := by decide +kernel
theorem dX6_readLine_212 : decode cX6_readLine 212 = .ok (.aload_n 0, 1) := by decide +kernel
theorem dX6_readLine_213 : decode cX6_readLine 213 = .ok (.iconst 1, 1) := by decide +kernel
theorem dX6_readLine_214 : decode cX6_readLine 214 = .ok (.invokevirtual 48, 3) := by decide +kernel
theorem dX6_readLine_217 : decode cX6_readLine 217 = .ok (.ireturn, 1) := by decide +kernel
theorem dX6_readClose_0 : decode cX6_readClose 0 = .ok (.aload_n 0, 1) := by decide +kernel
theorem dX6_readClose_1 : decode cX6_readClose 1 = .ok (.getfield 12, 3) := by decide +kernel
theorem dX6_readClose_4 : decode cX6_readClose 4 = .ok (.getfield 35, 3) := by decide +kernel
theorem dX6_readClose_7 : decode cX6_readClose 7 = .ok (.iconst 3, 1) := by decide +kernel
theorem dX6_readClose_8 : decode cX6_readClose 8 = .ok (.if_icmp .eq 9, 3) := by decide +kernel
theorem dX6_readClose_11 : decode cX6_readClose 11 = .ok (.aload_n 0, 1) := by decide +kernel
theorem dX6_readClose_12 : decode cX6_readClose 12 = .ok (.iconst 1, 1) := by decide +kernel
theorem dX6_readClose_13 : decode cX6_readClose 13 = .ok (.invokevirtual 48, 3) := by decide +kernel
theorem dX6_readClose_16 : decode cX6_readClose 16 = .ok (.ireturn, 1) := by decide +kernel
theorem dX6_readClose_17 : decode cX6_readClose 17 = .ok (.aload_n 0, 1) := by decide +kernel
theorem dX6_readClose_18 : decode cX6_readClose 18 = .ok (.getfield 12, 3) := by decide +kernel
theorem dX6_readClose_21 : decode cX6_readClose 21 = .ok (.invokevirtual 71, 3) := by decide +kernel
theorem dX6_readClose_24 : decode cX6_readClose 24 = .ok (.iconst 1, 1) := by decide +kernel
theorem dX6_readClose_25 : decode cX6_readClose 25 = .ok (.ireturn, 1) := by decide +kernel
theorem dX6_readSort_0 : decode cX6_readSort 0 = .ok (.aload_n 0, 1) := by decide +kernel
theorem dX6_readSort_1 : decode cX6_readSort 1 = .ok (.getfield 74, 3) := by decide +kernel
theorem dX6_readSort_4 : decode cX6_readSort 4 = .ok (.getfield 127, 3) := by decide +kernel
theorem dX6_readSort_7 : decode cX6_readSort 7 = .ok (.iconst 5, 1) := by decide +kernel
theorem dX6_readSort_8 : decode cX6_readSort 8 = .ok (.if_icmp .lt 9, 3) := by decide +kernel
theorem dX6_readSort_11 : decode cX6_readSort 11 = .ok (.aload_n 0, 1) := by decide +kernel
theorem dX6_readSort_12 : decode cX6_readSort 12 = .ok (.iconst 4, 1) := by decide +kernel
theorem dX6_readSort_13 : decode cX6_readSort 13 = .ok (.invokevirtual 48, 3) := by decide +kernel
theorem dX6_readSort_16 : decode cX6_readSort 16 = .ok (.ireturn, 1) := by decide +kernel
theorem dX6_readSort_17 : decode cX6_readSort 17 = .ok (.aload_n 0, 1) := by decide +kernel
theorem dX6_readSort_18 : decode cX6_readSort 18 = .ok (.getfield 74, 3) := by decide +kernel
theorem dX6_readSort_21 : decode cX6_readSort 21 = .ok (.getfield 127, 3) := by decide +kernel
theorem dX6_readSort_24 : decode cX6_readSort 24 = .ok (.istore_n 1, 1) := by decide +kernel
theorem dX6_readSort_25 : decode cX6_readSort 25 = .ok (.aload_n 0, 1) := by decide +kernel
theorem dX6_readSort_26 : decode cX6_readSort 26 = .ok (.iload_n 1, 1) := by decide +kernel
theorem dX6_readSort_27 : decode cX6_readSort 27 = .ok (.invokevirtual 130, 3) := by decide +kernel
theorem dX6_readSort_30 : decode cX6_readSort 30 = .ok (.ifCond .ne 5, 3) := by decide +kernel
theorem dX6_readSort_33 : decode cX6_readSort 33 = .ok (.iconst 0, 1) := by decide +kernel
theorem dX6_readSort_34 : decode cX6_readSort 34 = .ok (.ireturn, 1) := by decide +kernel
theorem dX6_readSort_35 : decode cX6_readSort 35 = .ok (.aload_n 0, 1) := by decide +kernel
theorem dX6_readSort_36 : decode cX6_readSort 36 = .ok (.getfield 74, 3) := by decide +kernel
theorem dX6_readSort_39 : decode cX6_readSort 39 = .ok (.dup, 1) := by decide +kernel
theorem dX6_readSort_40 : decode cX6_readSort 40 = .ok (.getfield 127, 3) := by decide +kernel
theorem dX6_readSort_43 : decode cX6_readSort 43 = .ok (.iconst 1, 1) := by decide +kernel
theorem dX6_readSort_44 : decode cX6_readSort 44 = .ok (.iadd, 1) := by decide +kernel
theorem dX6_readSort_45 : decode cX6_readSort 45 = .ok (.putfield 127, 3) := by decide +kernel
theorem dX6_readSort_48 : decode cX6_readSort 48 = .ok (.iconst 0, 1) := by decide +kernel
theorem dX6_readSort_49 : decode cX6_readSort 49 = .ok (.istore_n 2, 1) := by decide +kernel
theorem dX6_readSort_50 : decode cX6_readSort 50 = .ok (.iconst 0, 1) := by decide +kernel
theorem dX6_readSort_51 : decode cX6_readSort 51 = .ok (.istore_n 3, 1) := by decide +kernel
theorem dX6_readSort_52 : decode cX6_readSort 52 = .ok (.iconst 0, 1) := by decide +kernel
theorem dX6_readSort_53 : decode cX6_readSort 53 = .ok (.istore 4, 2) := by decide +kernel
theorem dX6_readSort_55 : decode cX6_readSort 55 = .ok (.iload 4, 2) := by decide +kernel
theorem dX6_readSort_57 : decode cX6_readSort 57 = .ok (.iconst 2, 1) := by decide +kernel
theorem dX6_readSort_58 : decode cX6_readSort 58 = .ok (.if_icmp .ge 83, 3) := by decide +kernel
theorem dX6_readSort_61 : decode cX6_readSort 61 = .ok (.aload_n 0, 1) := by decide +kernel
theorem dX6_readSort_62 : decode cX6_readSort 62 = .ok (.invokevirtual 133, 3) := by decide +kernel
theorem dX6_readSort_65 : decode cX6_readSort 65 = .ok (.ifCond .eq 76, 3) := by decide +kernel
theorem dX6_readSort_68 : decode cX6_readSort 68 = .ok (.aload_n 0, 1) := by decide +kernel
theorem dX6_readSort_69 : decode cX6_readSort 69 = .ok (.getfield 12, 3) := by decide +kernel
theorem dX6_readSort_72 : decode cX6_readSort 72 = .ok (.getfield 87, 3) := by decide +kernel
theorem dX6_readSort_75 : decode cX6_readSort 75 = .ok (.getstatic 136, 3) := by decide +kernel
theorem dX6_readSort_78 : decode cX6_readSort 78 = .ok (.if_acmp .ne 7, 3) := by decide +kernel
theorem dX6_readSort_81 : decode cX6_readSort 81 = .ok (.iconst 1, 1) := by decide +kernel
theorem dX6_readSort_82 : decode cX6_readSort 82 = .ok (.goto 4, 3) := by decide +kernel
theorem dX6_readSort_85 : decode cX6_readSort 85 = .ok (.iconst 0, 1) := by decide +kernel
theorem dX6_readSort_86 : decode cX6_readSort 86 = .ok (.istore 5, 2) := by decide +kernel
theorem dX6_readSort_88 : decode cX6_readSort 88 = .ok (.iload 5, 2) := by decide +kernel
theorem dX6_readSort_90 : decode cX6_readSort 90 = .ok (.ifCond .eq 10, 3) := by decide +kernel
theorem dX6_readSort_93 : decode cX6_readSort 93 = .ok (.iload_n 2, 1) := by decide +kernel
theorem dX6_readSort_94 : decode cX6_readSort 94 = .ok (.ifCond .eq 16, 3) := by decide +kernel
theorem dX6_readSort_97 : decode cX6_readSort 97 = .ok (.goto 7, 3) := by decide +kernel
theorem dX6_readSort_100 : decode cX6_readSort 100 = .ok (.iload_n 3, 1) := by decide +kernel
theorem dX6_readSort_101 : decode cX6_readSort 101 = .ok (.ifCond .eq 9, 3) := by decide +kernel
theorem dX6_readSort_104 : decode cX6_readSort 104 = .ok (.aload_n 0, 1) := by decide +kernel
theorem dX6_readSort_105 : decode cX6_readSort 105 = .ok (.iconst 3, 1) := by decide +kernel
theorem dX6_readSort_106 : decode cX6_readSort 106 = .ok (.invokevirtual 48, 3) := by decide +kernel
theorem dX6_readSort_109 : decode cX6_readSort 109 = .ok (.ireturn, 1) := by decide +kernel
theorem dX6_readSort_110 : decode cX6_readSort 110 = .ok (.iload_n 2, 1) := by decide +kernel
theorem dX6_readSort_111 : decode cX6_readSort 111 = .ok (.iload 5, 2) := by decide +kernel
theorem dX6_readSort_113 : decode cX6_readSort 113 = .ok (.ior, 1) := by decide +kernel
theorem dX6_readSort_114 : decode cX6_readSort 114 = .ok (.istore_n 2, 1) := by decide +kernel
theorem dX6_readSort_115 : decode cX6_readSort 115 = .ok (.iload_n 3, 1) := by decide +kernel
theorem dX6_readSort_116 : decode cX6_readSort 116 = .ok (.iload 5, 2) := by decide +kernel
theorem dX6_readSort_118 : decode cX6_readSort 118 = .ok (.ifCond .ne 7, 3) := by decide +kernel
theorem dX6_readSort_121 : decode cX6_readSort 121 = .ok (.iconst 1, 1) := by decide +kernel
theorem dX6_readSort_122 : decode cX6_readSort 122 = .ok (.goto 4, 3) := by decide +kernel
theorem dX6_readSort_125 : decode cX6_readSort 125 = .ok (.iconst 0, 1) := by decide +kernel
theorem dX6_readSort_126 : decode cX6_readSort 126 = .ok (.ior, 1) := by decide +kernel
theorem dX6_readSort_127 : decode cX6_readSort 127 = .ok (.istore_n 3, 1) := by decide +kernel
theorem dX6_readSort_128 : decode cX6_readSort 128 = .ok (.aload_n 0, 1) := by decide +kernel
theorem dX6_readSort_129 : decode cX6_readSort 129 = .ok (.getfield 12, 3) := by decide +kernel
theorem dX6_readSort_132 : decode cX6_readSort 132 = .ok (.invokevirtual 71, 3) := by decide +kernel
theorem dX6_readSort_135 : decode cX6_readSort 135 = .ok (.iinc 4 1, 3) := by decide +kernel
theorem dX6_readSort_138 : decode cX6_readSort 138 = .ok (.goto (-83), 3) := by decide +kernel
theorem dX6_readSort_141 : decode cX6_readSort 141 = .ok (.aload_n 0, 1) := by decide +kernel
theorem dX6_readSort_142 : decode cX6_readSort 142 = .ok (.getfield 74, 3) := by decide +kernel
theorem dX6_readSort_145 : decode cX6_readSort 145 = .ok (.getfield 139, 3) := by decide +kernel
theorem dX6_readSort_148 : decode cX6_readSort 148 = .ok (.iload_n 1, 1) := by decide +kernel
theorem dX6_readSort_149 : decode cX6_readSort 149 = .ok (.dup2, 1) := by decide +kernel
theorem dX6_readSort_150 : decode cX6_readSort 150 = .ok (.laload, 1) := by decide +kernel
theorem dX6_readSort_151 : decode cX6_readSort 151 = .ok (.iload_n 2, 1) := by decide +kernel
theorem dX6_readSort_152 : decode cX6_readSort 152 = .ok (.ifCond .eq 9, 3) := by decide +kernel
theorem dX6_readSort_155 : decode cX6_readSort 155 = .ok (.ldc2_w 143, 3) := by decide +kernel
theorem dX6_readSort_158 : decode cX6_readSort 158 = .ok (.goto 4, 3) := by decide +kernel
theorem dX6_readSort_161 : decode cX6_readSort 161 = .ok (.lconst 0, 1) := by decide +kernel
theorem dX6_readSort_162 : decode cX6_readSort 162 = .ok (.lor, 1) := by decide +kernel
theorem dX6_readSort_163 : decode cX6_readSort 163 = .ok (.lastore, 1) := by decide +kernel
theorem dX6_readSort_164 : decode cX6_readSort 164 = .ok (.aload_n 0, 1) := by decide +kernel
theorem dX6_readSort_165 : decode cX6_readSort 165 = .ok (.getfield 74, 3) := by decide +kernel
theorem dX6_readSort_168 : decode cX6_readSort 168 = .ok (.dup, 1) := by decide +kernel
theorem dX6_readSort_169 : decode cX6_readSort 169 = .ok (.getfield 145, 3) := by decide +kernel
theorem dX6_readSort_172 : decode cX6_readSort 172 = .ok (.iload_n 3, 1) := by decide +kernel
theorem dX6_readSort_173 : decode cX6_readSort 173 = .ok (.ifCond .eq 14, 3) := by decide +kernel
theorem dX6_readSort_176 : decode cX6_readSort 176 = .ok (.ldc2_w 149, 3) := by decide +kernel
theorem dX6_readSort_179 : decode cX6_readSort 179 = .ok (.bipush 8, 2) := by decide +kernel
theorem dX6_readSort_181 : decode cX6_readSort 181 = .ok (.iload_n 1, 1) := by decide +kernel
theorem dX6_readSort_182 : decode cX6_readSort 182 = .ok (.imul, 1) := by decide +kernel
theorem dX6_readSort_183 : decode cX6_readSort 183 = .ok (.lshl, 1) := by decide +kernel
theorem dX6_readSort_184 : decode cX6_readSort 184 = .ok (.goto 4, 3) := by decide +kernel
theorem dX6_readSort_187 : decode cX6_readSort 187 = .ok (.lconst 0, 1) := by decide +kernel
theorem dX6_readSort_188 : decode cX6_readSort 188 = .ok (.lor, 1) := by decide +kernel
theorem dX6_readSort_189 : decode cX6_readSort 189 = .ok (.putfield 145, 3) := by decide +kernel
theorem dX6_readSort_192 : decode cX6_readSort 192 = .ok (.aload_n 0, 1) := by decide +kernel
theorem dX6_readSort_193 : decode cX6_readSort 193 = .ok (.invokevirtual 133, 3) := by decide +kernel
theorem dX6_readSort_196 : decode cX6_readSort 196 = .ok (.ifCond .eq 11, 3) := by decide +kernel
theorem dX6_readSort_199 : decode cX6_readSort 199 = .ok (.aload_n 0, 1) := by decide +kernel
theorem dX6_readSort_200 : decode cX6_readSort 200 = .ok (.iconst 3, 1) := by decide +kernel
theorem dX6_readSort_201 : decode cX6_readSort 201 = .ok (.invokevirtual 48, 3) := by decide +kernel
theorem dX6_readSort_204 : decode cX6_readSort 204 = .ok (.ifCond .eq 7, 3) := by decide +kernel
theorem dX6_readSort_207 : decode cX6_readSort 207 = .ok (.iconst 1, 1) := by decide +kernel
theorem dX6_readSort_208 : decode cX6_readSort 208 = .ok (.goto 4, 3) := by decide +kernel
theorem dX6_readSort_211 : decode cX6_readSort 211 = .ok (.iconst 0, 1) := by decide +kernel
theorem dX6_readSort_212 : decode cX6_readSort 212 = .ok (.ireturn, 1) := by decide +kernel
theorem dX6_isBeginsOrEnds_0 : decode cX6_isBeginsOrEnds 0 = .ok (.aload_n 0, 1) := by decide +kernel
theorem dX6_isBeginsOrEnds_1 : decode cX6_isBeginsOrEnds 1 = .ok (.getfield 12, 3) := by decide +kernel
theorem dX6_isBeginsOrEnds_4 : decode cX6_isBeginsOrEnds 4 = .ok (.getfield 87, 3) := by decide +kernel
theorem dX6_isBeginsOrEnds_7 : decode cX6_isBeginsOrEnds 7 = .ok (.getstatic 136, 3) := by decide +kernel
theorem dX6_isBeginsOrEnds_10 : decode cX6_isBeginsOrEnds 10 = .ok (.if_acmp .eq 16, 3) := by decide +kernel
theorem dX6_isBeginsOrEnds_13 : decode cX6_isBeginsOrEnds 13 = .ok (.aload_n 0, 1) := by decide +kernel
theorem dX6_isBeginsOrEnds_14 : decode cX6_isBeginsOrEnds 14 = .ok (.getfield 12, 3) := by decide +kernel
theorem dX6_isBeginsOrEnds_17 : decode cX6_isBeginsOrEnds 17 = .ok (.getfield 87, 3) := by decide +kernel
theorem dX6_isBeginsOrEnds_20 : decode cX6_isBeginsOrEnds 20 = .ok (.getstatic 151, 3) := by decide +kernel
theorem dX6_isBeginsOrEnds_23 : decode cX6_isBeginsOrEnds 23 = .ok (.if_acmp .ne 7, 3) := by decide +kernel
theorem dX6_isBeginsOrEnds_26 : decode cX6_isBeginsOrEnds 26 = .ok (.iconst 1, 1) := by decide +kernel
theorem dX6_isBeginsOrEnds_27 : decode cX6_isBeginsOrEnds 27 = .ok (.goto 4, 3) := by decide +kernel
theorem dX6_isBeginsOrEnds_30 : decode cX6_isBeginsOrEnds 30 = .ok (.iconst 0, 1) := by decide +kernel
theorem dX6_isBeginsOrEnds_31 : decode cX6_isBeginsOrEnds 31 = .ok (.ireturn, 1) := by decide +kernel
theorem dX6_readMark_0 : decode cX6_readMark 0 = .ok (.aload_n 0, 1) := by decide +kernel
theorem dX6_readMark_1 : decode cX6_readMark 1 = .ok (.getfield 74, 3) := by decide +kernel
theorem dX6_readMark_4 : decode cX6_readMark 4 = .ok (.getfield 154, 3) := by decide +kernel
theorem dX6_readMark_7 : decode cX6_readMark 7 = .ok (.iconst 3, 1) := by decide +kernel
theorem dX6_readMark_8 : decode cX6_readMark 8 = .ok (.if_icmp .lt 9, 3) := by decide +kernel
theorem dX6_readMark_11 : decode cX6_readMark 11 = .ok (.aload_n 0, 1) := by decide +kernel
theorem dX6_readMark_12 : decode cX6_readMark 12 = .ok (.iconst 4, 1) := by decide +kernel
theorem dX6_readMark_13 : decode cX6_readMark 13 = .ok (.invokevirtual 48, 3) := by decide +kernel
theorem dX6_readMark_16 : decode cX6_readMark 16 = .ok (.ireturn, 1) := by decide +kernel
theorem dX6_readMark_17 : decode cX6_readMark 17 = .ok (.aload_n 0, 1) := by decide +kernel
theorem dX6_readMark_18 : decode cX6_readMark 18 = .ok (.iconst 5, 1) := by decide +kernel
theorem dX6_readMark_19 : decode cX6_readMark 19 = .ok (.aload_n 0, 1) := by decide +kernel
theorem dX6_readMark_20 : decode cX6_readMark 20 = .ok (.getfield 74, 3) := by decide +kernel
theorem dX6_readMark_23 : decode cX6_readMark 23 = .ok (.getfield 154, 3) := by decide +kernel
theorem dX6_readMark_26 : decode cX6_readMark 26 = .ok (.iadd, 1) := by decide +kernel
theorem dX6_readMark_27 : decode cX6_readMark 27 = .ok (.invokevirtual 130, 3) := by decide +kernel
theorem dX6_readMark_30 : decode cX6_readMark 30 = .ok (.ifCond .ne 5, 3) := by decide +kernel
theorem dX6_readMark_33 : decode cX6_readMark 33 = .ok (.iconst 0, 1) := by decide +kernel
theorem dX6_readMark_34 : decode cX6_readMark 34 = .ok (.ireturn, 1) := by decide +kernel
theorem dX6_readMark_35 : decode cX6_readMark 35 = .ok (.aload_n 0, 1) := by decide +kernel
theorem dX6_readMark_36 : decode cX6_readMark 36 = .ok (.getfield 74, 3) := by decide +kernel
theorem dX6_readMark_39 : decode cX6_readMark 39 = .ok (.dup, 1) := by decide +kernel
theorem dX6_readMark_40 : decode cX6_readMark 40 = .ok (.getfield 154, 3) := by decide +kernel
theorem dX6_readMark_43 : decode cX6_readMark 43 = .ok (.iconst 1, 1) := by decide +kernel
theorem dX6_readMark_44 : decode cX6_readMark 44 = .ok (.iadd, 1) := by decide +kernel
theorem dX6_readMark_45 : decode cX6_readMark 45 = .ok (.putfield 154, 3) := by decide +kernel
theorem dX6_readMark_48 : decode cX6_readMark 48 = .ok (.iconst 1, 1) := by decide +kernel
theorem dX6_readMark_49 : decode cX6_readMark 49 = .ok (.ireturn, 1) := by decide +kernel
theorem dX6_readFollow_0 : decode cX6_readFollow 0 = .ok (.aload_n 0, 1) := by decide +kernel
theorem dX6_readFollow_1 : decode cX6_readFollow 1 = .ok (.getfield 12, 3) := by decide +kernel
theorem dX6_readFollow_4 : decode cX6_readFollow 4 = .ok (.invokevirtual 71, 3) := by decide +kernel
theorem dX6_readFollow_7 : decode cX6_readFollow 7 = .ok (.aload_n 0, 1) := by decide +kernel
theorem dX6_readFollow_8 : decode cX6_readFollow 8 = .ok (.iconst 0, 1) := by decide +kernel
theorem dX6_readFollow_9 : decode cX6_readFollow 9 = .ok (.aload_n 0, 1) := by decide +kernel
theorem dX6_readFollow_10 : decode cX6_readFollow 10 = .ok (.getfield 74, 3) := by decide +kernel
theorem dX6_readFollow_13 : decode cX6_readFollow 13 = .ok (.getfield 127, 3) := by decide +kernel
theorem dX6_readFollow_16 : decode cX6_readFollow 16 = .ok (.invokevirtual 63, 3) := by decide +kernel
theorem dX6_readFollow_19 : decode cX6_readFollow 19 = .ok (.istore_n 1, 1) := by decide +kernel
theorem dX6_readFollow_20 : decode cX6_readFollow 20 = .ok (.iload_n 1, 1) := by decide +kernel
theorem dX6_readFollow_21 : decode cX6_readFollow 21 = .ok (.ifCond .ge 5, 3) := by decide +kernel
theorem dX6_readFollow_24 : decode cX6_readFollow 24 = .ok (.iconst 0, 1) := by decide +kernel
theorem dX6_readFollow_25 : decode cX6_readFollow 25 = .ok (.ireturn, 1) := by decide +kernel
theorem dX6_readFollow_26 : decode cX6_readFollow 26 = .ok (.aload_n 0, 1) := by decide +kernel
theorem dX6_readFollow_27 : decode cX6_readFollow 27 = .ok (.getfield 12, 3) := by decide +kernel
theorem dX6_readFollow_30 : decode cX6_readFollow 30 = .ok (.invokevirtual 71, 3) := by decide +kernel
theorem dX6_readFollow_33 : decode cX6_readFollow 33 = .ok (.aload_n 0, 1) := by decide +kernel
theorem dX6_readFollow_34 : decode cX6_readFollow 34 = .ok (.iconst 0, 1) := by decide +kernel
theorem dX6_readFollow_35 : decode cX6_readFollow 35 = .ok (.aload_n 0, 1) := by decide +kernel
theorem dX6_readFollow_36 : decode cX6_readFollow 36 = .ok (.getfield 74, 3) := by decide +kernel
theorem dX6_readFollow_39 : decode cX6_readFollow 39 = .ok (.getfield 127, 3) := by decide +kernel
theorem dX6_readFollow_42 : decode cX6_readFollow 42 = .ok (.invokevirtual 63, 3) := by decide +kernel
theorem dX6_readFollow_45 : decode cX6_readFollow 45 = .ok (.istore_n 2, 1) := by decide +kernel
theorem dX6_readFollow_46 : decode cX6_readFollow 46 = .ok (.iload_n 2, 1) := by decide +kernel
theorem dX6_readFollow_47 : decode cX6_readFollow 47 = .ok (.ifCond .lt 23, 3) := by decide +kernel
theorem dX6_readFollow_50 : decode cX6_readFollow 50 = .ok (.aload_n 0, 1) := by decide +kernel
theorem dX6_readFollow_51 : decode cX6_readFollow 51 = .ok (.getfield 74, 3) := by decide +kernel
theorem dX6_readFollow_54 : decode cX6_readFollow 54 = .ok (.iload_n 1, 1) := by decide +kernel
theorem dX6_readFollow_55 : decode cX6_readFollow 55 = .ok (.iload_n 2, 1) := by decide +kernel
theorem dX6_readFollow_56 : decode cX6_readFollow 56 = .ok (.invokevirtual 157, 3) := by decide +kernel
theorem dX6_readFollow_59 : decode cX6_readFollow 59 = .ok (.ifCond .eq 13, 3) := by decide +kernel
theorem dX6_readFollow_62 : decode cX6_readFollow 62 = .ok (.aload_n 0, 1) := by decide +kernel
theorem dX6_readFollow_63 : decode cX6_readFollow 63 = .ok (.iconst 3, 1) := by decide +kernel
theorem dX6_readFollow_64 : decode cX6_readFollow 64 = .ok (.invokevirtual 48, 3) := by decide +kernel
theorem dX6_readFollow_67 : decode cX6_readFollow 67 = .ok (.ifCond .ne 5, 3) := by decide +kernel
theorem dX6_readFollow_70 : decode cX6_readFollow 70 = .ok (.iconst 0, 1) := by decide +kernel
theorem dX6_readFollow_71 : decode cX6_readFollow 71 = .ok (.ireturn, 1) := by decide +kernel
theorem dX6_readFollow_72 : decode cX6_readFollow 72 = .ok (.aload_n 0, 1) := by decide +kernel
theorem dX6_readFollow_73 : decode cX6_readFollow 73 = .ok (.getfield 74, 3) := by decide +kernel
theorem dX6_readFollow_76 : decode cX6_readFollow 76 = .ok (.iload_n 1, 1) := by decide +kernel
theorem dX6_readFollow_77 : decode cX6_readFollow 77 = .ok (.iload_n 2, 1) := by decide +kernel
theorem dX6_readFollow_78 : decode cX6_readFollow 78 = .ok (.invokevirtual 161, 3) := by decide +kernel
theorem dX6_readFollow_81 : decode cX6_readFollow 81 = .ok (.aload_n 0, 1) := by decide +kernel
theorem dX6_readFollow_82 : decode cX6_readFollow 82 = .ok (.getfield 12, 3) := by decide +kernel
theorem dX6_readFollow_85 : decode cX6_readFollow 85 = .ok (.invokevirtual 71, 3) := by decide +kernel
theorem dX6_readFollow_88 : decode cX6_readFollow 88 = .ok (.iconst 1, 1) := by decide +kernel
theorem dX6_readFollow_89 : decode cX6_readFollow 89 = .ok (.ireturn, 1) := by decide +kernel
theorem dX6_readWord_0 : decode cX6_readWord 0 = .ok (.aload_n 0, 1) := by decide +kernel
theorem dX6_readWord_1 : decode cX6_readWord 1 = .ok (.getfield 74, 3) := by decide +kernel
theorem dX6_readWord_4 : decode cX6_readWord 4 = .ok (.getfield 60, 3) := by decide +kernel
theorem dX6_readWord_7 : decode cX6_readWord 7 = .ok (.bipush 8, 2) := by decide +kernel
theorem dX6_readWord_9 : decode cX6_readWord 9 = .ok (.if_icmp .lt 9, 3) := by decide +kernel
theorem dX6_readWord_12 : decode cX6_readWord 12 = .ok (.aload_n 0, 1) := by decide +kernel
theorem dX6_readWord_13 : decode cX6_readWord 13 = .ok (.iconst 4, 1) := by decide +kernel
theorem dX6_readWord_14 : decode cX6_readWord 14 = .ok (.invokevirtual 48, 3) := by decide +kernel
theorem dX6_readWord_17 : decode cX6_readWord 17 = .ok (.ireturn, 1) := by decide +kernel
theorem dX6_readWord_18 : decode cX6_readWord 18 = .ok (.aload_n 0, 1) := by decide +kernel
theorem dX6_readWord_19 : decode cX6_readWord 19 = .ok (.getfield 74, 3) := by decide +kernel
theorem dX6_readWord_22 : decode cX6_readWord 22 = .ok (.getfield 60, 3) := by decide +kernel
theorem dX6_readWord_25 : decode cX6_readWord 25 = .ok (.istore_n 1, 1) := by decide +kernel
theorem dX6_readWord_26 : decode cX6_readWord 26 = .ok (.aload_n 0, 1) := by decide +kernel
theorem dX6_readWord_27 : decode cX6_readWord 27 = .ok (.bipush 8, 2) := by decide +kernel
theorem dX6_readWord_29 : decode cX6_readWord 29 = .ok (.iload_n 1, 1) := by decide +kernel
theorem dX6_readWord_30 : decode cX6_readWord 30 = .ok (.iadd, 1) := by decide +kernel
theorem dX6_readWord_31 : decode cX6_readWord 31 = .ok (.invokevirtual 130, 3) := by decide +kernel
theorem dX6_readWord_34 : decode cX6_readWord 34 = .ok (.ifCond .ne 5, 3) := by decide +kernel
theorem dX6_readWord_37 : decode cX6_readWord 37 = .ok (.iconst 0, 1) := by decide +kernel
theorem dX6_readWord_38 : decode cX6_readWord 38 = .ok (.ireturn, 1) := by decide +kernel
theorem dX6_readWord_39 : decode cX6_readWord 39 = .ok (.aload_n 0, 1) := by decide +kernel
theorem dX6_readWord_40 : decode cX6_readWord 40 = .ok (.getfield 74, 3) := by decide +kernel
theorem dX6_readWord_43 : decode cX6_readWord 43 = .ok (.dup, 1) := by decide +kernel
theorem dX6_readWord_44 : decode cX6_readWord 44 = .ok (.getfield 60, 3) := by decide +kernel
theorem dX6_readWord_47 : decode cX6_readWord 47 = .ok (.iconst 1, 1) := by decide +kernel
theorem dX6_readWord_48 : decode cX6_readWord 48 = .ok (.iadd, 1) := by decide +kernel
theorem dX6_readWord_49 : decode cX6_readWord 49 = .ok (.putfield 60, 3) := by decide +kernel
theorem dX6_readWord_52 : decode cX6_readWord 52 = .ok (.aload_n 0, 1) := by decide +kernel
theorem dX6_readWord_53 : decode cX6_readWord 53 = .ok (.getstatic 165, 3) := by decide +kernel
theorem dX6_readWord_56 : decode cX6_readWord 56 = .ok (.aload_n 0, 1) := by decide +kernel
theorem dX6_readWord_57 : decode cX6_readWord 57 = .ok (.getfield 74, 3) := by decide +kernel
theorem dX6_readWord_60 : decode cX6_readWord 60 = .ok (.getfield 168, 3) := by decide +kernel
theorem dX6_readWord_63 : decode cX6_readWord 63 = .ok (.iconst 0, 1) := by decide +kernel
theorem dX6_readWord_64 : decode cX6_readWord 64 = .ok (.bipush 9, 2) := by decide +kernel
theorem dX6_readWord_66 : decode cX6_readWord 66 = .ok (.invokevirtual 171, 3) := by decide +kernel
theorem dX6_readWord_69 : decode cX6_readWord 69 = .ok (.ifCond .eq 47, 3) := by decide +kernel
theorem dX6_readWord_72 : decode cX6_readWord 72 = .ok (.aload_n 0, 1) := by decide +kernel
theorem dX6_readWord_73 : decode cX6_readWord 73 = .ok (.getstatic 175, 3) := by decide +kernel
theorem dX6_readWord_76 : decode cX6_readWord 76 = .ok (.aload_n 0, 1) := by decide +kernel
theorem dX6_readWord_77 : decode cX6_readWord 77 = .ok (.getfield 74, 3) := by decide +kernel
theorem dX6_readWord_80 : decode cX6_readWord 80 = .ok (.getfield 178, 3) := by decide +kernel
theorem dX6_readWord_83 : decode cX6_readWord 83 = .ok (.iconst 1, 1) := by decide +kernel
theorem dX6_readWord_84 : decode cX6_readWord 84 = .ok (.bipush 60, 2) := by decide +kernel
theorem dX6_readWord_86 : decode cX6_readWord 86 = .ok (.invokevirtual 171, 3) := by decide +kernel
theorem dX6_readWord_89 : decode cX6_readWord 89 = .ok (.ifCond .eq 27, 3) := by decide +kernel
theorem dX6_readWord_92 : decode cX6_readWord 92 = .ok (.aload_n 0, 1) := by decide +kernel
theorem dX6_readWord_93 : decode cX6_readWord 93 = .ok (.getstatic 181, 3) := by decide +kernel
theorem dX6_readWord_96 : decode cX6_readWord 96 = .ok (.aload_n 0, 1) := by decide +kernel
theorem dX6_readWord_97 : decode cX6_readWord 97 = .ok (.getfield 74, 3) := by decide +kernel
theorem dX6_readWord_100 : decode cX6_readWord 100 = .ok (.getfield 184, 3) := by decide +kernel
theorem dX6_readWord_103 : decode cX6_readWord 103 = .ok (.iconst 0, 1) := by decide +kernel
theorem dX6_readWord_104 : decode cX6_readWord 104 = .ok (.bipush 99, 2) := by decide +kernel
theorem dX6_readWord_106 : decode cX6_readWord 106 = .ok (.invokevirtual 171, 3) := by decide +kernel
theorem dX6_readWord_109 : decode cX6_readWord 109 = .ok (.ifCond .eq 7, 3) := by decide +kernel
theorem dX6_readWord_112 : decode cX6_readWord 112 = .ok (.iconst 1, 1) := by decide +kernel
theorem dX6_readWord_113 : decode cX6_readWord 113 = .ok (.goto 4, 3) := by decide +kernel
theorem dX6_readWord_116 : decode cX6_readWord 116 = .ok (.iconst 0, 1) := by decide +kernel
theorem dX6_readWord_117 : decode cX6_readWord 117 = .ok (.istore_n 2, 1) := by decide +kernel
theorem dX6_readWord_118 : decode cX6_readWord 118 = .ok (.iload_n 2, 1) := by decide +kernel
theorem dX6_readWord_119 : decode cX6_readWord 119 = .ok (.ifCond .eq 38, 3) := by decide +kernel
theorem dX6_readWord_122 : decode cX6_readWord 122 = .ok (.aload_n 0, 1) := by decide +kernel
theorem dX6_readWord_123 : decode cX6_readWord 123 = .ok (.getfield 12, 3) := by decide +kernel
theorem dX6_readWord_126 : decode cX6_readWord 126 = .ok (.getfield 87, 3) := by decide +kernel
theorem dX6_readWord_129 : decode cX6_readWord 129 = .ok (.getstatic 187, 3) := by decide +kernel
theorem dX6_readWord_132 : decode cX6_readWord 132 = .ok (.if_acmp .ne 25, 3) := by decide +kernel
theorem dX6_readWord_135 : decode cX6_readWord 135 = .ok (.aload_n 0, 1) := by decide +kernel
theorem dX6_readWord_136 : decode cX6_readWord 136 = .ok (.getfield 74, 3) := by decide +kernel
theorem dX6_readWord_139 : decode cX6_readWord 139 = .ok (.dup, 1) := by decide +kernel
theorem dX6_readWord_140 : decode cX6_readWord 140 = .ok (.getfield 190, 3) := by decide +kernel
theorem dX6_readWord_143 : decode cX6_readWord 143 = .ok (.iconst 1, 1) := by decide +kernel
theorem dX6_readWord_144 : decode cX6_readWord 144 = .ok (.iload_n 1, 1) := by decide +kernel
theorem dX6_readWord_145 : decode cX6_readWord 145 = .ok (.ishl, 1) := by decide +kernel
theorem dX6_readWord_146 : decode cX6_readWord 146 = .ok (.ior, 1) := by decide +kernel
theorem dX6_readWord_147 : decode cX6_readWord 147 = .ok (.putfield 190, 3) := by decide +kernel
theorem dX6_readWord_150 : decode cX6_readWord 150 = .ok (.aload_n 0, 1) := by decide +kernel
theorem dX6_readWord_151 : decode cX6_readWord 151 = .ok (.getfield 12, 3) := by decide +kernel
theorem dX6_readWord_154 : decode cX6_readWord 154 = .ok (.invokevirtual 71, 3) := by decide +kernel
theorem dX6_readWord_157 : decode cX6_readWord 157 = .ok (.iload_n 2, 1) := by decide +kernel
theorem dX6_readWord_158 : decode cX6_readWord 158 = .ok (.ireturn, 1) := by decide +kernel
theorem dX6_readOption_0 : decode cX6_readOption 0 = .ok (.aload_n 0, 1) := by decide +kernel
theorem dX6_readOption_1 : decode cX6_readOption 1 = .ok (.getfield 74, 3) := by decide +kernel
theorem dX6_readOption_4 : decode cX6_readOption 4 = .ok (.getfield 60, 3) := by decide +kernel
theorem dX6_readOption_7 : decode cX6_readOption 7 = .ok (.iconst 1, 1) := by decide +kernel
theorem dX6_readOption_8 : decode cX6_readOption 8 = .ok (.isub, 1) := by decide +kernel
theorem dX6_readOption_9 : decode cX6_readOption 9 = .ok (.istore 5, 2) := by decide +kernel
theorem dX6_readOption_11 : decode cX6_readOption 11 = .ok (.iload 5, 2) := by decide +kernel
theorem dX6_readOption_13 : decode cX6_readOption 13 = .ok (.ifCond .lt 10, 3) := by decide +kernel
theorem dX6_readOption_16 : decode cX6_readOption 16 = .ok (.iload 5, 2) := by decide +kernel
theorem dX6_readOption_18 : decode cX6_readOption 18 = .ok (.aload_n 2, 1) := by decide +kernel
theorem dX6_readOption_19 : decode cX6_readOption 19 = .ok (.arraylength, 1) := by decide +kernel
theorem dX6_readOption_20 : decode cX6_readOption 20 = .ok (.if_icmp .lt 5, 3) := by decide +kernel
theorem dX6_readOption_23 : decode cX6_readOption 23 = .ok (.iconst 0, 1) := by decide +kernel
theorem dX6_readOption_24 : decode cX6_readOption 24 = .ok (.ireturn, 1) := by decide +kernel
theorem dX6_readOption_25 : decode cX6_readOption 25 = .ok (.aload_n 2, 1) := by decide +kernel
theorem dX6_readOption_26 : decode cX6_readOption 26 = .ok (.iload 5, 2) := by decide +kernel
theorem dX6_readOption_28 : decode cX6_readOption 28 = .ok (.iconst 1, 1) := by decide +kernel
theorem dX6_readOption_29 : decode cX6_readOption 29 = .ok (.iastore, 1) := by decide +kernel
theorem dX6_readOption_30 : decode cX6_readOption 30 = .ok (.aload_n 0, 1) := by decide +kernel
theorem dX6_readOption_31 : decode cX6_readOption 31 = .ok (.getfield 12, 3) := by decide +kernel
theorem dX6_readOption_34 : decode cX6_readOption 34 = .ok (.getfield 87, 3) := by decide +kernel
theorem dX6_readOption_37 : decode cX6_readOption 37 = .ok (.aload_n 1, 1) := by decide +kernel
theorem dX6_readOption_38 : decode cX6_readOption 38 = .ok (.if_acmp .eq 5, 3) := by decide +kernel
theorem dX6_readOption_41 : decode cX6_readOption 41 = .ok (.iconst 1, 1) := by decide +kernel
theorem dX6_readOption_42 : decode cX6_readOption 42 = .ok (.ireturn, 1) := by decide +kernel
theorem dX6_readOption_43 : decode cX6_readOption 43 = .ok (.aload_n 0, 1) := by decide +kernel
theorem dX6_readOption_44 : decode cX6_readOption 44 = .ok (.getfield 12, 3) := by decide +kernel
theorem dX6_readOption_47 : decode cX6_readOption 47 = .ok (.invokevirtual 71, 3) := by decide +kernel
theorem dX6_readOption_50 : decode cX6_readOption 50 = .ok (.aload_n 0, 1) := by decide +kernel
theorem dX6_readOption_51 : decode cX6_readOption 51 = .ok (.iload_n 3, 1) := by decide +kernel
theorem dX6_readOption_52 : decode cX6_readOption 52 = .ok (.iload 4, 2) := by decide +kernel
theorem dX6_readOption_54 : decode cX6_readOption 54 = .ok (.invokevirtual 193, 3) := by decide +kernel
theorem dX6_readOption_57 : decode cX6_readOption 57 = .ok (.istore 6, 2) := by decide +kernel
theorem dX6_readOption_59 : decode cX6_readOption 59 = .ok (.iload 6, 2) := by decide +kernel
theorem dX6_readOption_61 : decode cX6_readOption 61 = .ok (.ifCond .ge 5, 3) := by decide +kernel
theorem dX6_readOption_64 : decode cX6_readOption 64 = .ok (.iconst 0, 1) := by decide +kernel
theorem dX6_readOption_65 : decode cX6_readOption 65 = .ok (.ireturn, 1) := by decide +kernel
theorem dX6_readOption_66 : decode cX6_readOption 66 = .ok (.aload_n 2, 1) := by decide +kernel
theorem dX6_readOption_67 : decode cX6_readOption 67 = .ok (.iload 5, 2) := by decide +kernel
theorem dX6_readOption_69 : decode cX6_readOption 69 = .ok (.iload 6, 2) := by decide +kernel
theorem dX6_readOption_71 : decode cX6_readOption 71 = .ok (.iastore, 1) := by decide +kernel
theorem dX6_readOption_72 : decode cX6_readOption 72 = .ok (.aload_n 0, 1) := by decide +kernel
theorem dX6_readOption_73 : decode cX6_readOption 73 = .ok (.getfield 12, 3) := by decide +kernel
theorem dX6_readOption_76 : decode cX6_readOption 76 = .ok (.invokevirtual 71, 3) := by decide +kernel
theorem dX6_readOption_79 : decode cX6_readOption 79 = .ok (.iconst 1, 1) := by decide +kernel
theorem dX6_readOption_80 : decode cX6_readOption 80 = .ok (.ireturn, 1) := by decide +kernel
theorem dX6_readReads_0 : decode cX6_readReads 0 = .ok (.aload_n 0, 1) := by decide +kernel
theorem dX6_readReads_1 : decode cX6_readReads 1 = .ok (.getfield 12, 3) := by decide +kernel
theorem dX6_readReads_4 : decode cX6_readReads 4 = .ok (.invokevirtual 71, 3) := by decide +kernel
theorem dX6_readReads_7 : decode cX6_readReads 7 = .ok (.aload_n 0, 1) := by decide +kernel
theorem dX6_readReads_8 : decode cX6_readReads 8 = .ok (.bipush 8, 2) := by decide +kernel
theorem dX6_readReads_10 : decode cX6_readReads 10 = .ok (.aload_n 0, 1) := by decide +kernel
theorem dX6_readReads_11 : decode cX6_readReads 11 = .ok (.getfield 74, 3) := by decide +kernel
theorem dX6_readReads_14 : decode cX6_readReads 14 = .ok (.getfield 60, 3) := by decide +kernel
theorem dX6_readReads_17 : decode cX6_readReads 17 = .ok (.invokevirtual 63, 3) := by decide +kernel
theorem dX6_readReads_20 : decode cX6_readReads 20 = .ok (.istore_n 1, 1) := by decide +kernel
theorem dX6_readReads_21 : decode cX6_readReads 21 = .ok (.iload_n 1, 1) := by decide +kernel
theorem dX6_readReads_22 : decode cX6_readReads 22 = .ok (.ifCond .ge 5, 3) := by decide +kernel
theorem dX6_readReads_25 : decode cX6_readReads 25 = .ok (.iconst 0, 1) := by decide +kernel
theorem dX6_readReads_26 : decode cX6_readReads 26 = .ok (.ireturn, 1) := by decide +kernel
theorem dX6_readReads_27 : decode cX6_readReads 27 = .ok (.aload_n 0, 1) := by decide +kernel
theorem dX6_readReads_28 : decode cX6_readReads 28 = .ok (.getfield 12, 3) := by decide +kernel
theorem dX6_readReads_31 : decode cX6_readReads 31 = .ok (.invokevirtual 71, 3) := by decide +kernel
theorem dX6_readReads_34 : decode cX6_readReads 34 = .ok (.aload_n 0, 1) := by decide +kernel
theorem dX6_readReads_35 : decode cX6_readReads 35 = .ok (.iconst 0, 1) := by decide +kernel
theorem dX6_readReads_36 : decode cX6_readReads 36 = .ok (.aload_n 0, 1) := by decide +kernel
theorem dX6_readReads_37 : decode cX6_readReads 37 = .ok (.getfield 74, 3) := by decide +kernel
theorem dX6_readReads_40 : decode cX6_readReads 40 = .ok (.getfield 127, 3) := by decide +kernel
theorem dX6_readReads_43 : decode cX6_readReads 43 = .ok (.invokevirtual 63, 3) := by decide +kernel
theorem dX6_readReads_46 : decode cX6_readReads 46 = .ok (.istore_n 2, 1) := by decide +kernel
theorem dX6_readReads_47 : decode cX6_readReads 47 = .ok (.iload_n 2, 1) := by decide +kernel
theorem dX6_readReads_48 : decode cX6_readReads 48 = .ok (.ifCond .lt 23, 3) := by decide +kernel
theorem dX6_readReads_51 : decode cX6_readReads 51 = .ok (.aload_n 0, 1) := by decide +kernel
theorem dX6_readReads_52 : decode cX6_readReads 52 = .ok (.getfield 74, 3) := by decide +kernel
theorem dX6_readReads_55 : decode cX6_readReads 55 = .ok (.iload_n 1, 1) := by decide +kernel
theorem dX6_readReads_56 : decode cX6_readReads 56 = .ok (.iload_n 2, 1) := by decide +kernel
theorem dX6_readReads_57 : decode cX6_readReads 57 = .ok (.invokevirtual 196, 3) := by decide +kernel
theorem dX6_readReads_60 : decode cX6_readReads 60 = .ok (.ifCond .eq 13, 3) := by decide +kernel
theorem dX6_readReads_63 : decode cX6_readReads 63 = .ok (.aload_n 0, 1) := by decide +kernel
theorem dX6_readReads_64 : decode cX6_readReads 64 = .ok (.iconst 3, 1) := by decide +kernel
theorem dX6_readReads_65 : decode cX6_readReads 65 = .ok (.invokevirtual 48, 3) := by decide +kernel
theorem dX6_readReads_68 : decode cX6_readReads 68 = .ok (.ifCond .ne 5, 3) := by decide +kernel
theorem dX6_readReads_71 : decode cX6_readReads 71 = .ok (.iconst 0, 1) := by decide +kernel
theorem dX6_readReads_72 : decode cX6_readReads 72 = .ok (.ireturn, 1) := by decide +kernel
theorem dX6_readReads_73 : decode cX6_readReads 73 = .ok (.aload_n 0, 1) := by decide +kernel
theorem dX6_readReads_74 : decode cX6_readReads 74 = .ok (.getfield 74, 3) := by decide +kernel
theorem dX6_readReads_77 : decode cX6_readReads 77 = .ok (.iload_n 1, 1) := by decide +kernel
theorem dX6_readReads_78 : decode cX6_readReads 78 = .ok (.iload_n 2, 1) := by decide +kernel
theorem dX6_readReads_79 : decode cX6_readReads 79 = .ok (.invokevirtual 199, 3) := by decide +kernel
theorem dX6_readReads_82 : decode cX6_readReads 82 = .ok (.aload_n 0, 1) := by decide +kernel
theorem dX6_readReads_83 : decode cX6_readReads 83 = .ok (.getfield 12, 3) := by decide +kernel
theorem dX6_readReads_86 : decode cX6_readReads 86 = .ok (.invokevirtual 71, 3) := by decide +kernel
theorem dX6_readReads_89 : decode cX6_readReads 89 = .ok (.iconst 0, 1) := by decide +kernel
theorem dX6_readReads_90 : decode cX6_readReads 90 = .ok (.istore_n 3, 1) := by decide +kernel
theorem dX6_readReads_91 : decode cX6_readReads 91 = .ok (.iload_n 3, 1) := by decide +kernel
theorem dX6_readReads_92 : decode cX6_readReads 92 = .ok (.bipush 6, 2) := by decide +kernel
theorem dX6_readReads_94 : decode cX6_readReads 94 = .ok (.if_icmp .ge 27, 3) := by decide +kernel
theorem dX6_readReads_97 : decode cX6_readReads 97 = .ok (.aload_n 0, 1) := by decide +kernel
theorem dX6_readReads_98 : decode cX6_readReads 98 = .ok (.invokevirtual 202, 3) := by decide +kernel
theorem dX6_readReads_101 : decode cX6_readReads 101 = .ok (.ifCond .eq 20, 3) := by decide +kernel
theorem dX6_readReads_104 : decode cX6_readReads 104 = .ok (.aload_n 0, 1) := by decide +kernel
theorem dX6_readReads_105 : decode cX6_readReads 105 = .ok (.iload_n 1, 1) := by decide +kernel
theorem dX6_readReads_106 : decode cX6_readReads 106 = .ok (.iload_n 2, 1) := by decide +kernel
theorem dX6_readReads_107 : decode cX6_readReads 107 = .ok (.invokevirtual 205, 3) := by decide +kernel
theorem dX6_readReads_110 : decode cX6_readReads 110 = .ok (.ifCond .ne 5, 3) := by decide +kernel
theorem dX6_readReads_113 : decode cX6_readReads 113 = .ok (.iconst 0, 1) := by decide +kernel
theorem dX6_readReads_114 : decode cX6_readReads 114 = .ok (.ireturn, 1) := by decide +kernel
theorem dX6_readReads_115 : decode cX6_readReads 115 = .ok (.iinc 3 1, 3) := by decide +kernel
theorem dX6_readReads_118 : decode cX6_readReads 118 = .ok (.goto (-27), 3) := by decide +kernel
theorem dX6_readReads_121 : decode cX6_readReads 121 = .ok (.aload_n 0, 1) := by decide +kernel
theorem dX6_readReads_122 : decode cX6_readReads 122 = .ok (.invokevirtual 202, 3) := by decide +kernel
theorem dX6_readReads_125 : decode cX6_readReads 125 = .ok (.ifCond .eq 11, 3) := by decide +kernel
theorem dX6_readReads_128 : decode cX6_readReads 128 = .ok (.aload_n 0, 1) := by decide +kernel
theorem dX6_readReads_129 : decode cX6_readReads 129 = .ok (.iconst 4, 1) := by decide +kernel
theorem dX6_readReads_130 : decode cX6_readReads 130 = .ok (.invokevirtual 48, 3) := by decide +kernel
theorem dX6_readReads_133 : decode cX6_readReads 133 = .ok (.ifCond .eq 7, 3) := by decide +kernel
theorem dX6_readReads_136 : decode cX6_readReads 136 = .ok (.iconst 1, 1) := by decide +kernel
theorem dX6_readReads_137 : decode cX6_readReads 137 = .ok (.goto 4, 3) := by decide +kernel
theorem dX6_readReads_140 : decode cX6_readReads 140 = .ok (.iconst 0, 1) := by decide +kernel
theorem dX6_readReads_141 : decode cX6_readReads 141 = .ok (.ireturn, 1) := by decide +kernel
theorem dX6_isChange_0 : decode cX6_isChange 0 = .ok (.aload_n 0, 1) := by decide +kernel
theorem dX6_isChange_1 : decode cX6_isChange 1 = .ok (.getfield 12, 3) := by decide +kernel
theorem dX6_isChange_4 : decode cX6_isChange 4 = .ok (.getfield 87, 3) := by decide +kernel
theorem dX6_isChange_7 : decode cX6_isChange 7 = .ok (.astore_n 1, 1) := by decide +kernel
theorem dX6_isChange_8 : decode cX6_isChange 8 = .ok (.aload_n 1, 1) := by decide +kernel
theorem dX6_isChange_9 : decode cX6_isChange 9 = .ok (.getstatic 208, 3) := by decide +kernel
theorem dX6_isChange_12 : decode cX6_isChange 12 = .ok (.if_acmp .eq 17, 3) := by decide +kernel
theorem dX6_isChange_15 : decode cX6_isChange 15 = .ok (.aload_n 1, 1) := by decide +kernel
theorem dX6_isChange_16 : decode cX6_isChange 16 = .ok (.getstatic 211, 3) := by decide +kernel
theorem dX6_isChange_19 : decode cX6_isChange 19 = .ok (.if_acmp .eq 10, 3) := by decide +kernel
theorem dX6_isChange_22 : decode cX6_isChange 22 = .ok (.aload_n 1, 1) := by decide +kernel
theorem dX6_isChange_23 : decode cX6_isChange 23 = .ok (.getstatic 214, 3) := by decide +kernel
theorem dX6_isChange_26 : decode cX6_isChange 26 = .ok (.if_acmp .ne 7, 3) := by decide +kernel
theorem dX6_isChange_29 : decode cX6_isChange 29 = .ok (.iconst 1, 1) := by decide +kernel
theorem dX6_isChange_30 : decode cX6_isChange 30 = .ok (.goto 4, 3) := by decide +kernel
theorem dX6_isChange_33 : decode cX6_isChange 33 = .ok (.iconst 0, 1) := by decide +kernel
theorem dX6_isChange_34 : decode cX6_isChange 34 = .ok (.ireturn, 1) := by decide +kernel
theorem dX6_readChange_0 : decode cX6_readChange 0 = .ok (.aload_n 0, 1) := by decide +kernel
theorem dX6_readChange_1 : decode cX6_readChange 1 = .ok (.getfield 12, 3) := by decide +kernel
theorem dX6_readChange_4 : decode cX6_readChange 4 = .ok (.getfield 87, 3) := by decide +kernel
theorem dX6_readChange_7 : decode cX6_readChange 7 = .ok (.astore_n 3, 1) := by decide +kernel
theorem dX6_readChange_8 : decode cX6_readChange 8 = .ok (.aload_n 0, 1) := by decide +kernel
theorem dX6_readChange_9 : decode cX6_readChange 9 = .ok (.getfield 12, 3) := by decide +kernel
theorem dX6_readChange_12 : decode cX6_readChange 12 = .ok (.invokevirtual 71, 3) := by decide +kernel
theorem dX6_readChange_15 : decode cX6_readChange 15 = .ok (.aload_n 0, 1) := by decide +kernel
theorem dX6_readChange_16 : decode cX6_readChange 16 = .ok (.iconst 5, 1) := by decide +kernel
theorem dX6_readChange_17 : decode cX6_readChange 17 = .ok (.aload_n 0, 1) := by decide +kernel
theorem dX6_readChange_18 : decode cX6_readChange 18 = .ok (.getfield 74, 3) := by decide +kernel
theorem dX6_readChange_21 : decode cX6_readChange 21 = .ok (.getfield 154, 3) := by decide +kernel
theorem dX6_readChange_24 : decode cX6_readChange 24 = .ok (.invokevirtual 63, 3) := by decide +kernel
theorem dX6_readChange_27 : decode cX6_readChange 27 = .ok (.istore 4, 2) := by decide +kernel
theorem dX6_readChange_29 : decode cX6_readChange 29 = .ok (.iload 4, 2) := by decide +kernel
theorem dX6_readChange_31 : decode cX6_readChange 31 = .ok (.ifCond .ge 5, 3) := by decide +kernel
theorem dX6_readChange_34 : decode cX6_readChange 34 = .ok (.iconst 0, 1) := by decide +kernel
theorem dX6_readChange_35 : decode cX6_readChange 35 = .ok (.ireturn, 1) := by decide +kernel
theorem dX6_readChange_36 : decode cX6_readChange 36 = .ok (.iconst 1, 1) := by decide +kernel
theorem dX6_readChange_37 : decode cX6_readChange 37 = .ok (.iload 4, 2) := by decide +kernel
theorem dX6_readChange_39 : decode cX6_readChange 39 = .ok (.ishl, 1) := by decide +kernel
theorem dX6_readChange_40 : decode cX6_readChange 40 = .ok (.istore 5, 2) := by decide +kernel
theorem dX6_readChange_42 : decode cX6_readChange 42 = .ok (.aload_n 3, 1) := by decide +kernel
theorem dX6_readChange_43 : decode cX6_readChange 43 = .ok (.getstatic 214, 3) := by decide +kernel
theorem dX6_readChange_46 : decode cX6_readChange 46 = .ok (.if_acmp .ne 8, 3) := by decide +kernel
theorem dX6_readChange_49 : decode cX6_readChange 49 = .ok (.bipush 7, 2) := by decide +kernel
theorem dX6_readChange_51 : decode cX6_readChange 51 = .ok (.goto 8, 3) := by decide +kernel
theorem dX6_readChange_54 : decode cX6_readChange 54 = .ok (.bipush 7, 2) := by decide +kernel
theorem dX6_readChange_56 : decode cX6_readChange 56 = .ok (.iload 5, 2) := by decide +kernel
theorem dX6_readChange_58 : decode cX6_readChange 58 = .ok (.isub, 1) := by decide +kernel
theorem dX6_readChange_59 : decode cX6_readChange 59 = .ok (.istore 6, 2) := by decide +kernel
theorem dX6_readChange_61 : decode cX6_readChange 61 = .ok (.aload_n 0, 1) := by decide +kernel
theorem dX6_readChange_62 : decode cX6_readChange 62 = .ok (.getfield 74, 3) := by decide +kernel
theorem dX6_readChange_65 : decode cX6_readChange 65 = .ok (.iload_n 1, 1) := by decide +kernel
theorem dX6_readChange_66 : decode cX6_readChange 66 = .ok (.iload_n 2, 1) := by decide +kernel
theorem dX6_readChange_67 : decode cX6_readChange 67 = .ok (.iload 6, 2) := by decide +kernel
theorem dX6_readChange_69 : decode cX6_readChange 69 = .ok (.aload_n 3, 1) := by decide +kernel
theorem dX6_readChange_70 : decode cX6_readChange 70 = .ok (.getstatic 211, 3) := by decide +kernel
theorem dX6_readChange_73 : decode cX6_readChange 73 = .ok (.if_acmp .ne 7, 3) := by decide +kernel
theorem dX6_readChange_76 : decode cX6_readChange 76 = .ok (.iconst 0, 1) := by decide +kernel
theorem dX6_readChange_77 : decode cX6_readChange 77 = .ok (.goto 5, 3) := by decide +kernel
theorem dX6_readChange_80 : decode cX6_readChange 80 = .ok (.iload 5, 2) := by decide +kernel
theorem dX6_readChange_82 : decode cX6_readChange 82 = .ok (.invokevirtual 217, 3) := by decide +kernel
theorem dX6_readChange_85 : decode cX6_readChange 85 = .ok (.aload_n 0, 1) := by decide +kernel
theorem dX6_readChange_86 : decode cX6_readChange 86 = .ok (.getfield 12, 3) := by decide +kernel
theorem dX6_readChange_89 : decode cX6_readChange 89 = .ok (.invokevirtual 71, 3) := by decide +kernel
theorem dX6_readChange_92 : decode cX6_readChange 92 = .ok (.iconst 1, 1) := by decide +kernel
theorem dX6_readChange_93 : decode cX6_readChange 93 = .ok (.ireturn, 1) := by decide +kernel
theorem dX6_readEdict_0 : decode cX6_readEdict 0 = .ok (.aload_n 0, 1) := by decide +kernel
theorem dX6_readEdict_1 : decode cX6_readEdict 1 = .ok (.getfield 27, 3) := by decide +kernel
theorem dX6_readEdict_4 : decode cX6_readEdict 4 = .ok (.ifCond .ne 10, 3) := by decide +kernel
theorem dX6_readEdict_7 : decode cX6_readEdict 7 = .ok (.aload_n 0, 1) := by decide +kernel
theorem dX6_readEdict_8 : decode cX6_readEdict 8 = .ok (.getfield 31, 3) := by decide +kernel
theorem dX6_readEdict_11 : decode cX6_readEdict 11 = .ok (.ifCond .eq 9, 3) := by decide +kernel
theorem dX6_readEdict_14 : decode cX6_readEdict 14 = .ok (.aload_n 0, 1) := by decide +kernel
theorem dX6_readEdict_15 : decode cX6_readEdict 15 = .ok (.iconst 3, 1) := by decide +kernel
theorem dX6_readEdict_16 : decode cX6_readEdict 16 = .ok (.invokevirtual 48, 3) := by decide +kernel
theorem dX6_readEdict_19 : decode cX6_readEdict 19 = .ok (.ireturn, 1) := by decide +kernel
theorem dX6_readEdict_20 : decode cX6_readEdict 20 = .ok (.aload_n 0, 1) := by decide +kernel
theorem dX6_readEdict_21 : decode cX6_readEdict 21 = .ok (.getfield 12, 3) := by decide +kernel
theorem dX6_readEdict_24 : decode cX6_readEdict 24 = .ok (.invokevirtual 71, 3) := by decide +kernel
theorem dX6_readEdict_27 : decode cX6_readEdict 27 = .ok (.aload_n 0, 1) := by decide +kernel
theorem dX6_readEdict_28 : decode cX6_readEdict 28 = .ok (.iconst 2, 1) := by decide +kernel
theorem dX6_readEdict_29 : decode cX6_readEdict 29 = .ok (.iconst 5, 1) := by decide +kernel
theorem dX6_readEdict_30 : decode cX6_readEdict 30 = .ok (.invokevirtual 193, 3) := by decide +kernel
theorem dX6_readEdict_33 : decode cX6_readEdict 33 = .ok (.istore_n 1, 1) := by decide +kernel
theorem dX6_readEdict_34 : decode cX6_readEdict 34 = .ok (.iload_n 1, 1) := by decide +kernel
theorem dX6_readEdict_35 : decode cX6_readEdict 35 = .ok (.ifCond .ge 5, 3) := by decide +kernel
theorem dX6_readEdict_38 : decode cX6_readEdict 38 = .ok (.iconst 0, 1) := by decide +kernel
theorem dX6_readEdict_39 : decode cX6_readEdict 39 = .ok (.ireturn, 1) := by decide +kernel
theorem dX6_readEdict_40 : decode cX6_readEdict 40 = .ok (.aload_n 0, 1) := by decide +kernel
theorem dX6_readEdict_41 : decode cX6_readEdict 41 = .ok (.getfield 12, 3) := by decide +kernel
theorem dX6_readEdict_44 : decode cX6_readEdict 44 = .ok (.invokevirtual 71, 3) := by decide +kernel
theorem dX6_readEdict_47 : decode cX6_readEdict 47 = .ok (.aload_n 0, 1) := by decide +kernel
theorem dX6_readEdict_48 : decode cX6_readEdict 48 = .ok (.iconst 1, 1) := by decide +kernel
theorem dX6_readEdict_49 : decode cX6_readEdict 49 = .ok (.iload_n 1, 1) := by decide +kernel
theorem dX6_readEdict_50 : decode cX6_readEdict 50 = .ok (.iconst 1, 1) := by decide +kernel
theorem dX6_readEdict_51 : decode cX6_readEdict 51 = .ok (.isub, 1) := by decide +kernel
theorem dX6_readEdict_52 : decode cX6_readEdict 52 = .ok (.invokevirtual 193, 3) := by decide +kernel
theorem dX6_readEdict_55 : decode cX6_readEdict 55 = .ok (.istore_n 2, 1) := by decide +kernel
theorem dX6_readEdict_56 : decode cX6_readEdict 56 = .ok (.iload_n 2, 1) := by decide +kernel
theorem dX6_readEdict_57 : decode cX6_readEdict 57 = .ok (.ifCond .ge 5, 3) := by decide +kernel
theorem dX6_readEdict_60 : decode cX6_readEdict 60 = .ok (.iconst 0, 1) := by decide +kernel
theorem dX6_readEdict_61 : decode cX6_readEdict 61 = .ok (.ireturn, 1) := by decide +kernel
theorem dX6_readEdict_62 : decode cX6_readEdict 62 = .ok (.aload_n 0, 1) := by decide +kernel
theorem dX6_readEdict_63 : decode cX6_readEdict 63 = .ok (.getfield 74, 3) := by decide +kernel
theorem dX6_readEdict_66 : decode cX6_readEdict 66 = .ok (.getfield 221, 3) := by decide +kernel
theorem dX6_readEdict_69 : decode cX6_readEdict 69 = .ok (.iload_n 1, 1) := by decide +kernel
theorem dX6_readEdict_70 : decode cX6_readEdict 70 = .ok (.iload_n 2, 1) := by decide +kernel
theorem dX6_readEdict_71 : decode cX6_readEdict 71 = .ok (.invokevirtual 225, 3) := by decide +kernel
theorem dX6_readEdict_74 : decode cX6_readEdict 74 = .ok (.aload_n 0, 1) := by decide +kernel
theorem dX6_readEdict_75 : decode cX6_readEdict 75 = .ok (.iconst 1, 1) := by decide +kernel
theorem dX6_readEdict_76 : decode cX6_readEdict 76 = .ok (.putfield 27, 3) := by decide +kernel
theorem dX6_readEdict_79 : decode cX6_readEdict 79 = .ok (.aload_n 0, 1) := by decide +kernel
theorem dX6_readEdict_80 : decode cX6_readEdict 80 = .ok (.getfield 12, 3) := by decide +kernel
theorem dX6_readEdict_83 : decode cX6_readEdict 83 = .ok (.invokevirtual 71, 3) := by decide +kernel
theorem dX6_readEdict_86 : decode cX6_readEdict 86 = .ok (.iconst 1, 1) := by decide +kernel
theorem dX6_readEdict_87 : decode cX6_readEdict 87 = .ok (.ireturn, 1) := by decide +kernel
theorem dX6_readClerk_0 : decode cX6_readClerk 0 = .ok (.aload_n 0, 1) := by decide +kernel
theorem dX6_readClerk_1 : decode cX6_readClerk 1 = .ok (.getfield 12, 3) := by decide +kernel
theorem dX6_readClerk_4 : decode cX6_readClerk 4 = .ok (.invokevirtual 71, 3) := by decide +kernel
theorem dX6_readClerk_7 : decode cX6_readClerk 7 = .ok (.aload_n 0, 1) := by decide +kernel
theorem dX6_readClerk_8 : decode cX6_readClerk 8 = .ok (.iconst 1, 1) := by decide +kernel
theorem dX6_readClerk_9 : decode cX6_readClerk 9 = .ok (.aload_n 0, 1) := by decide +kernel
theorem dX6_readClerk_10 : decode cX6_readClerk 10 = .ok (.getfield 74, 3) := by decide +kernel
theorem dX6_readClerk_13 : decode cX6_readClerk 13 = .ok (.getfield 221, 3) := by decide +kernel
theorem dX6_readClerk_16 : decode cX6_readClerk 16 = .ok (.getfield 230, 3) := by decide +kernel
theorem dX6_readClerk_19 : decode cX6_readClerk 19 = .ok (.invokevirtual 193, 3) := by decide +kernel
theorem dX6_readClerk_22 : decode cX6_readClerk 22 = .ok (.istore_n 1, 1) := by decide +kernel
theorem dX6_readClerk_23 : decode cX6_readClerk 23 = .ok (.iload_n 1, 1) := by decide +kernel
theorem dX6_readClerk_24 : decode cX6_readClerk 24 = .ok (.ifCond .lt 22, 3) := by decide +kernel
theorem dX6_readClerk_27 : decode cX6_readClerk 27 = .ok (.aload_n 0, 1) := by decide +kernel
theorem dX6_readClerk_28 : decode cX6_readClerk 28 = .ok (.getfield 31, 3) := by decide +kernel
theorem dX6_readClerk_31 : decode cX6_readClerk 31 = .ok (.iload_n 1, 1) := by decide +kernel
theorem dX6_readClerk_32 : decode cX6_readClerk 32 = .ok (.ishr, 1) := by decide +kernel
theorem dX6_readClerk_33 : decode cX6_readClerk 33 = .ok (.iconst 1, 1) := by decide +kernel
theorem dX6_readClerk_34 : decode cX6_readClerk 34 = .ok (.iand, 1) := by decide +kernel
theorem dX6_readClerk_35 : decode cX6_readClerk 35 = .ok (.ifCond .eq 13, 3) := by decide +kernel
theorem dX6_readClerk_38 : decode cX6_readClerk 38 = .ok (.aload_n 0, 1) := by decide +kernel
theorem dX6_readClerk_39 : decode cX6_readClerk 39 = .ok (.iconst 3, 1) := by decide +kernel
theorem dX6_readClerk_40 : decode cX6_readClerk 40 = .ok (.invokevirtual 48, 3) := by decide +kernel
theorem dX6_readClerk_43 : decode cX6_readClerk 43 = .ok (.ifCond .ne 5, 3) := by decide +kernel
theorem dX6_readClerk_46 : decode cX6_readClerk 46 = .ok (.iconst 0, 1) := by decide +kernel
theorem dX6_readClerk_47 : decode cX6_readClerk 47 = .ok (.ireturn, 1) := by decide +kernel
theorem dX6_readClerk_48 : decode cX6_readClerk 48 = .ok (.aload_n 0, 1) := by decide +kernel
theorem dX6_readClerk_49 : decode cX6_readClerk 49 = .ok (.getfield 12, 3) := by decide +kernel
theorem dX6_readClerk_52 : decode cX6_readClerk 52 = .ok (.invokevirtual 71, 3) := by decide +kernel
theorem dX6_readClerk_55 : decode cX6_readClerk 55 = .ok (.aload_n 0, 1) := by decide +kernel
theorem dX6_readClerk_56 : decode cX6_readClerk 56 = .ok (.iconst 0, 1) := by decide +kernel
theorem dX6_readClerk_57 : decode cX6_readClerk 57 = .ok (.bipush 9, 2) := by decide +kernel
theorem dX6_readClerk_59 : decode cX6_readClerk 59 = .ok (.invokevirtual 193, 3) := by decide +kernel
theorem dX6_readClerk_62 : decode cX6_readClerk 62 = .ok (.istore_n 2, 1) := by decide +kernel
theorem dX6_readClerk_63 : decode cX6_readClerk 63 = .ok (.iload_n 2, 1) := by decide +kernel
theorem dX6_readClerk_64 : decode cX6_readClerk 64 = .ok (.ifCond .ge 5, 3) := by decide +kernel
theorem dX6_readClerk_67 : decode cX6_readClerk 67 = .ok (.iconst 0, 1) := by decide +kernel
theorem dX6_readClerk_68 : decode cX6_readClerk 68 = .ok (.ireturn, 1) := by decide +kernel
theorem dX6_readClerk_69 : decode cX6_readClerk 69 = .ok (.aload_n 0, 1) := by decide +kernel
theorem dX6_readClerk_70 : decode cX6_readClerk 70 = .ok (.dup, 1) := by decide +kernel
theorem dX6_readClerk_71 : decode cX6_readClerk 71 = .ok (.getfield 31, 3) := by decide +kernel
theorem dX6_readClerk_74 : decode cX6_readClerk 74 = .ok (.iconst 1, 1) := by decide +kernel
theorem dX6_readClerk_75 : decode cX6_readClerk 75 = .ok (.iload_n 1, 1) := by decide +kernel
theorem dX6_readClerk_76 : decode cX6_readClerk 76 = .ok (.ishl, 1) := by decide +kernel
theorem dX6_readClerk_77 : decode cX6_readClerk 77 = .ok (.ior, 1) := by decide +kernel
theorem dX6_readClerk_78 : decode cX6_readClerk 78 = .ok (.putfield 31, 3) := by decide +kernel
theorem dX6_readClerk_81 : decode cX6_readClerk 81 = .ok (.aload_n 0, 1) := by decide +kernel
theorem dX6_readClerk_82 : decode cX6_readClerk 82 = .ok (.getfield 74, 3) := by decide +kernel
theorem dX6_readClerk_85 : decode cX6_readClerk 85 = .ok (.getfield 233, 3) := by decide +kernel
theorem dX6_readClerk_88 : decode cX6_readClerk 88 = .ok (.iload_n 1, 1) := by decide +kernel
theorem dX6_readClerk_89 : decode cX6_readClerk 89 = .ok (.iload_n 2, 1) := by decide +kernel
theorem dX6_readClerk_90 : decode cX6_readClerk 90 = .ok (.iastore, 1) := by decide +kernel
theorem dX6_readClerk_91 : decode cX6_readClerk 91 = .ok (.aload_n 0, 1) := by decide +kernel
theorem dX6_readClerk_92 : decode cX6_readClerk 92 = .ok (.getfield 12, 3) := by decide +kernel
theorem dX6_readClerk_95 : decode cX6_readClerk 95 = .ok (.invokevirtual 71, 3) := by decide +kernel
theorem dX6_readClerk_98 : decode cX6_readClerk 98 = .ok (.iconst 1, 1) := by decide +kernel
theorem dX6_readClerk_99 : decode cX6_readClerk 99 = .ok (.ireturn, 1) := by decide +kernel
theorem dX6_readNewName_0 : decode cX6_readNewName 0 = .ok (.aload_n 0, 1) := by decide +kernel
theorem dX6_readNewName_1 : decode cX6_readNewName 1 = .ok (.getfield 12, 3) := by decide +kernel
theorem dX6_readNewName_4 : decode cX6_readNewName 4 = .ok (.invokevirtual 71, 3) := by decide +kernel
theorem dX6_readNewName_7 : decode cX6_readNewName 7 = .ok (.aload_n 0, 1) := by decide +kernel
theorem dX6_readNewName_8 : decode cX6_readNewName 8 = .ok (.invokevirtual 236, 3) := by decide +kernel
theorem dX6_readNewName_11 : decode cX6_readNewName 11 = .ok (.ifCond .ne 9, 3) := by decide +kernel
theorem dX6_readNewName_14 : decode cX6_readNewName 14 = .ok (.aload_n 0, 1) := by decide +kernel
theorem dX6_readNewName_15 : decode cX6_readNewName 15 = .ok (.iconst 1, 1) := by decide +kernel
theorem dX6_readNewName_16 : decode cX6_readNewName 16 = .ok (.invokevirtual 48, 3) := by decide +kernel
theorem dX6_readNewName_19 : decode cX6_readNewName 19 = .ok (.ireturn, 1) := by decide +kernel
theorem dX6_readNewName_20 : decode cX6_readNewName 20 = .ok (.aload_n 0, 1) := by decide +kernel
theorem dX6_readNewName_21 : decode cX6_readNewName 21 = .ok (.iconst 0, 1) := by decide +kernel
theorem dX6_readNewName_22 : decode cX6_readNewName 22 = .ok (.aload_n 0, 1) := by decide +kernel
theorem dX6_readNewName_23 : decode cX6_readNewName 23 = .ok (.getfield 74, 3) := by decide +kernel
theorem dX6_readNewName_26 : decode cX6_readNewName 26 = .ok (.getfield 127, 3) := by decide +kernel
theorem dX6_readNewName_29 : decode cX6_readNewName 29 = .ok (.invokevirtual 239, 3) := by decide +kernel
theorem dX6_readNewName_32 : decode cX6_readNewName 32 = .ok (.ifCond .ge 34, 3) := by decide +kernel
theorem dX6_readNewName_35 : decode cX6_readNewName 35 = .ok (.aload_n 0, 1) := by decide +kernel
theorem dX6_readNewName_36 : decode cX6_readNewName 36 = .ok (.iconst 5, 1) := by decide +kernel
theorem dX6_readNewName_37 : decode cX6_readNewName 37 = .ok (.aload_n 0, 1) := by decide +kernel
theorem dX6_readNewName_38 : decode cX6_readNewName 38 = .ok (.getfield 74, 3) := by decide +kernel
theorem dX6_readNewName_41 : decode cX6_readNewName 41 = .ok (.getfield 154, 3) := by decide +kernel
theorem dX6_readNewName_44 : decode cX6_readNewName 44 = .ok (.invokevirtual 239, 3) := by decide +kernel
theorem dX6_readNewName_47 : decode cX6_readNewName 47 = .ok (.ifCond .ge 19, 3) := by decide +kernel
theorem dX6_readNewName_50 : decode cX6_readNewName 50 = .ok (.aload_n 0, 1) := by decide +kernel
theorem dX6_readNewName_51 : decode cX6_readNewName 51 = .ok (.bipush 8, 2) := by decide +kernel
theorem dX6_readNewName_53 : decode cX6_readNewName 53 = .ok (.aload_n 0, 1) := by decide +kernel
theorem dX6_readNewName_54 : decode cX6_readNewName 54 = .ok (.getfield 74, 3) := by decide +kernel
theorem dX6_readNewName_57 : decode cX6_readNewName 57 = .ok (.getfield 60, 3) := by decide +kernel
theorem dX6_readNewName_60 : decode cX6_readNewName 60 = .ok (.invokevirtual 239, 3) := by decide +kernel
theorem dX6_readNewName_63 : decode cX6_readNewName 63 = .ok (.ifCond .lt 7, 3) := by decide +kernel
theorem dX6_readNewName_66 : decode cX6_readNewName 66 = .ok (.iconst 1, 1) := by decide +kernel
theorem dX6_readNewName_67 : decode cX6_readNewName 67 = .ok (.goto 4, 3) := by decide +kernel
theorem dX6_readNewName_70 : decode cX6_readNewName 70 = .ok (.iconst 0, 1) := by decide +kernel
theorem dX6_readNewName_71 : decode cX6_readNewName 71 = .ok (.istore_n 2, 1) := by decide +kernel
theorem dX6_readNewName_72 : decode cX6_readNewName 72 = .ok (.iload_n 2, 1) := by decide +kernel
theorem dX6_readNewName_73 : decode cX6_readNewName 73 = .ok (.ifCond .eq 9, 3) := by decide +kernel
theorem dX6_readNewName_76 : decode cX6_readNewName 76 = .ok (.aload_n 0, 1) := by decide +kernel
theorem dX6_readNewName_77 : decode cX6_readNewName 77 = .ok (.iconst 3, 1) := by decide +kernel
theorem dX6_readNewName_78 : decode cX6_readNewName 78 = .ok (.invokevirtual 48, 3) := by decide +kernel
theorem dX6_readNewName_81 : decode cX6_readNewName 81 = .ok (.ireturn, 1) := by decide +kernel
theorem dX6_readNewName_82 : decode cX6_readNewName 82 = .ok (.aload_n 0, 1) := by decide +kernel
theorem dX6_readNewName_83 : decode cX6_readNewName 83 = .ok (.getfield 74, 3) := by decide +kernel
theorem dX6_readNewName_86 : decode cX6_readNewName 86 = .ok (.getfield 242, 3) := by decide +kernel
theorem dX6_readNewName_89 : decode cX6_readNewName 89 = .ok (.iload_n 1, 1) := by decide +kernel
theorem dX6_readNewName_90 : decode cX6_readNewName 90 = .ok (.aload_n 0, 1) := by decide +kernel
theorem dX6_readNewName_91 : decode cX6_readNewName 91 = .ok (.getfield 12, 3) := by decide +kernel
theorem dX6_readNewName_94 : decode cX6_readNewName 94 = .ok (.getfield 245, 3) := by decide +kernel
theorem dX6_readNewName_97 : decode cX6_readNewName 97 = .ok (.iastore, 1) := by decide +kernel
theorem dX6_readNewName_98 : decode cX6_readNewName 98 = .ok (.aload_n 0, 1) := by decide +kernel
theorem dX6_readNewName_99 : decode cX6_readNewName 99 = .ok (.getfield 12, 3) := by decide +kernel
theorem dX6_readNewName_102 : decode cX6_readNewName 102 = .ok (.invokevirtual 71, 3) := by decide +kernel
theorem dX6_readNewName_105 : decode cX6_readNewName 105 = .ok (.iconst 1, 1) := by decide +kernel
theorem dX6_readNewName_106 : decode cX6_readNewName 106 = .ok (.ireturn, 1) := by decide +kernel
theorem dX6_toldHere_0 : decode cX6_toldHere 0 = .ok (.aload_n 0, 1) := by decide +kernel
theorem dX6_toldHere_1 : decode cX6_toldHere 1 = .ok (.invokevirtual 236, 3) := by decide +kernel
theorem dX6_toldHere_4 : decode cX6_toldHere 4 = .ok (.ifCond .ne 11, 3) := by decide +kernel
theorem dX6_toldHere_7 : decode cX6_toldHere 7 = .ok (.aload_n 0, 1) := by decide +kernel
theorem dX6_toldHere_8 : decode cX6_toldHere 8 = .ok (.iconst 1, 1) := by decide +kernel
theorem dX6_toldHere_9 : decode cX6_toldHere 9 = .ok (.invokevirtual 48, 3) := by decide +kernel
theorem dX6_toldHere_12 : decode cX6_toldHere 12 = .ok (.pop, 1) := by decide +kernel
theorem dX6_toldHere_13 : decode cX6_toldHere 13 = .ok (.iconst (-1), 1) := by decide +kernel
theorem dX6_toldHere_14 : decode cX6_toldHere 14 = .ok (.ireturn, 1) := by decide +kernel
theorem dX6_toldHere_15 : decode cX6_toldHere 15 = .ok (.aload_n 0, 1) := by decide +kernel
theorem dX6_toldHere_16 : decode cX6_toldHere 16 = .ok (.iload_n 1, 1) := by decide +kernel
theorem dX6_toldHere_17 : decode cX6_toldHere 17 = .ok (.iload_n 2, 1) := by decide +kernel
theorem dX6_toldHere_18 : decode cX6_toldHere 18 = .ok (.invokevirtual 239, 3) := by decide +kernel
theorem dX6_toldHere_21 : decode cX6_toldHere 21 = .ok (.istore_n 3, 1) := by decide +kernel
theorem dX6_toldHere_22 : decode cX6_toldHere 22 = .ok (.iload_n 3, 1) := by decide +kernel
theorem dX6_toldHere_23 : decode cX6_toldHere 23 = .ok (.ifCond .ge 9, 3) := by decide +kernel
theorem dX6_toldHere_26 : decode cX6_toldHere 26 = .ok (.aload_n 0, 1) := by decide +kernel
theorem dX6_toldHere_27 : decode cX6_toldHere 27 = .ok (.iconst 3, 1) := by decide +kernel
theorem dX6_toldHere_28 : decode cX6_toldHere 28 = .ok (.invokevirtual 48, 3) := by decide +kernel
theorem dX6_toldHere_31 : decode cX6_toldHere 31 = .ok (.pop, 1) := by decide +kernel
theorem dX6_toldHere_32 : decode cX6_toldHere 32 = .ok (.iload_n 3, 1) := by decide +kernel
theorem dX6_toldHere_33 : decode cX6_toldHere 33 = .ok (.ireturn, 1) := by decide +kernel
theorem dX6_isNameHere_0 : decode cX6_isNameHere 0 = .ok (.aload_n 0, 1) := by decide +kernel
theorem dX6_isNameHere_1 : decode cX6_isNameHere 1 = .ok (.getfield 12, 3) := by decide +kernel
theorem dX6_isNameHere_4 : decode cX6_isNameHere 4 = .ok (.getfield 35, 3) := by decide +kernel
theorem dX6_isNameHere_7 : decode cX6_isNameHere 7 = .ok (.iconst 1, 1) := by decide +kernel
theorem dX6_isNameHere_8 : decode cX6_isNameHere 8 = .ok (.if_icmp .ne 17, 3) := by decide +kernel
theorem dX6_isNameHere_11 : decode cX6_isNameHere 11 = .ok (.aload_n 0, 1) := by decide +kernel
theorem dX6_isNameHere_12 : decode cX6_isNameHere 12 = .ok (.getfield 12, 3) := by decide +kernel
theorem dX6_isNameHere_15 : decode cX6_isNameHere 15 = .ok (.getfield 87, 3) := by decide +kernel
theorem dX6_isNameHere_18 : decode cX6_isNameHere 18 = .ok (.ifnonnull 7, 3) := by decide +kernel
theorem dX6_isNameHere_21 : decode cX6_isNameHere 21 = .ok (.iconst 1, 1) := by decide +kernel
theorem dX6_isNameHere_22 : decode cX6_isNameHere 22 = .ok (.goto 4, 3) := by decide +kernel
theorem dX6_isNameHere_25 : decode cX6_isNameHere 25 = .ok (.iconst 0, 1) := by decide +kernel
theorem dX6_isNameHere_26 : decode cX6_isNameHere 26 = .ok (.ireturn, 1) := by decide +kernel
theorem dX6_indexOfName_0 : decode cX6_indexOfName 0 = .ok (.iconst 0, 1) := by decide +kernel
theorem dX6_indexOfName_1 : decode cX6_indexOfName 1 = .ok (.istore_n 3, 1) := by decide +kernel
theorem dX6_indexOfName_2 : decode cX6_indexOfName 2 = .ok (.iload_n 3, 1) := by decide +kernel
theorem dX6_indexOfName_3 : decode cX6_indexOfName 3 = .ok (.iload_n 2, 1) := by decide +kernel
theorem dX6_indexOfName_4 : decode cX6_indexOfName 4 = .ok (.if_icmp .ge 32, 3) := by decide +kernel
theorem dX6_indexOfName_7 : decode cX6_indexOfName 7 = .ok (.aload_n 0, 1) := by decide +kernel
theorem dX6_indexOfName_8 : decode cX6_indexOfName 8 = .ok (.getfield 74, 3) := by decide +kernel
theorem dX6_indexOfName_11 : decode cX6_indexOfName 11 = .ok (.getfield 242, 3) := by decide +kernel
theorem dX6_indexOfName_14 : decode cX6_indexOfName 14 = .ok (.iload_n 1, 1) := by decide +kernel
theorem dX6_indexOfName_15 : decode cX6_indexOfName 15 = .ok (.iload_n 3, 1) := by decide +kernel
theorem dX6_indexOfName_16 : decode cX6_indexOfName 16 = .ok (.iadd, 1) := by decide +kernel
theorem dX6_indexOfName_17 : decode cX6_indexOfName 17 = .ok (.iaload, 1) := by decide +kernel
theorem dX6_indexOfName_18 : decode cX6_indexOfName 18 = .ok (.aload_n 0, 1) := by decide +kernel
theorem dX6_indexOfName_19 : decode cX6_indexOfName 19 = .ok (.getfield 12, 3) := by decide +kernel
theorem dX6_indexOfName_22 : decode cX6_indexOfName 22 = .ok (.getfield 245, 3) := by decide +kernel
theorem dX6_indexOfName_25 : decode cX6_indexOfName 25 = .ok (.if_icmp .ne 5, 3) := by decide +kernel
theorem dX6_indexOfName_28 : decode cX6_indexOfName 28 = .ok (.iload_n 3, 1) := by decide +kernel
theorem dX6_indexOfName_29 : decode cX6_indexOfName 29 = .ok (.ireturn, 1) := by decide +kernel
theorem dX6_indexOfName_30 : decode cX6_indexOfName 30 = .ok (.iinc 3 1, 3) := by decide +kernel
theorem dX6_indexOfName_33 : decode cX6_indexOfName 33 = .ok (.goto (-31), 3) := by decide +kernel
theorem dX6_indexOfName_36 : decode cX6_indexOfName 36 = .ok (.iconst (-1), 1) := by decide +kernel
theorem dX6_indexOfName_37 : decode cX6_indexOfName 37 = .ok (.ireturn, 1) := by decide +kernel
theorem dX6_numberHere_0 : decode cX6_numberHere 0 = .ok (.aload_n 0, 1) := by decide +kernel
theorem dX6_numberHere_1 : decode cX6_numberHere 1 = .ok (.getfield 12, 3) := by decide +kernel
theorem dX6_numberHere_4 : decode cX6_numberHere 4 = .ok (.getfield 35, 3) := by decide +kernel
theorem dX6_numberHere_7 : decode cX6_numberHere 7 = .ok (.iconst 2, 1) := by decide +kernel
theorem dX6_numberHere_8 : decode cX6_numberHere 8 = .ok (.if_icmp .eq 11, 3) := by decide +kernel
theorem dX6_numberHere_11 : decode cX6_numberHere 11 = .ok (.aload_n 0, 1) := by decide +kernel
theorem dX6_numberHere_12 : decode cX6_numberHere 12 = .ok (.iconst 1, 1) := by decide +kernel
theorem dX6_numberHere_13 : decode cX6_numberHere 13 = .ok (.invokevirtual 48, 3) := by decide +kernel
theorem dX6_numberHere_16 : decode cX6_numberHere 16 = .ok (.pop, 1) := by decide +kernel
theorem dX6_numberHere_17 : decode cX6_numberHere 17 = .ok (.iconst (-1), 1) := by decide +kernel
theorem dX6_numberHere_18 : decode cX6_numberHere 18 = .ok (.ireturn, 1) := by decide +kernel
theorem dX6_numberHere_19 : decode cX6_numberHere 19 = .ok (.aload_n 0, 1) := by decide +kernel
theorem dX6_numberHere_20 : decode cX6_numberHere 20 = .ok (.getfield 12, 3) := by decide +kernel
theorem dX6_numberHere_23 : decode cX6_numberHere 23 = .ok (.getfield 245, 3) := by decide +kernel
theorem dX6_numberHere_26 : decode cX6_numberHere 26 = .ok (.iload_n 1, 1) := by decide +kernel
theorem dX6_numberHere_27 : decode cX6_numberHere 27 = .ok (.if_icmp .lt 14, 3) := by decide +kernel
theorem dX6_numberHere_30 : decode cX6_numberHere 30 = .ok (.aload_n 0, 1) := by decide +kernel
theorem dX6_numberHere_31 : decode cX6_numberHere 31 = .ok (.getfield 12, 3) := by decide +kernel
theorem dX6_numberHere_34 : decode cX6_numberHere 34 = .ok (.getfield 245, 3) := by decide +kernel
theorem dX6_numberHere_37 : decode cX6_numberHere 37 = .ok (.iload_n 2, 1) := by decide +kernel
theorem dX6_numberHere_38 : decode cX6_numberHere 38 = .ok (.if_icmp .le 11, 3) := by decide +kernel
theorem dX6_numberHere_41 : decode cX6_numberHere 41 = .ok (.aload_n 0, 1) := by decide +kernel
theorem dX6_numberHere_42 : decode cX6_numberHere 42 = .ok (.iconst 2, 1) := by decide +kernel
theorem dX6_numberHere_43 : decode cX6_numberHere 43 = .ok (.invokevirtual 48, 3) := by decide +kernel
theorem dX6_numberHere_46 : decode cX6_numberHere 46 = .ok (.pop, 1) := by decide +kernel
theorem dX6_numberHere_47 : decode cX6_numberHere 47 = .ok (.iconst (-1), 1) := by decide +kernel
theorem dX6_numberHere_48 : decode cX6_numberHere 48 = .ok (.ireturn, 1) := by decide +kernel
theorem dX6_numberHere_49 : decode cX6_numberHere 49 = .ok (.aload_n 0, 1) := by decide +kernel
theorem dX6_numberHere_50 : decode cX6_numberHere 50 = .ok (.getfield 12, 3) := by decide +kernel
theorem dX6_numberHere_53 : decode cX6_numberHere 53 = .ok (.getfield 245, 3) := by decide +kernel
theorem dX6_numberHere_56 : decode cX6_numberHere 56 = .ok (.ireturn, 1) := by decide +kernel
theorem dX7_init_0 : decode cX7_init 0 = .ok (.aload_n 0, 1) := by decide +kernel
theorem dX7_init_1 : decode cX7_init 1 = .ok (.invokespecial 3, 3) := by decide +kernel
theorem dX7_init_4 : decode cX7_init 4 = .ok (.aload_n 0, 1) := by decide +kernel
theorem dX7_init_5 : decode cX7_init 5 = .ok (.iload_n 1, 1) := by decide +kernel
theorem dX7_init_6 : decode cX7_init 6 = .ok (.iconst 0, 1) := by decide +kernel
theorem dX7_init_7 : decode cX7_init 7 = .ok (.invokestatic 9, 3) := by decide +kernel
theorem dX7_init_10 : decode cX7_init 10 = .ok (.newarray .int, 2) := by decide +kernel
theorem dX7_init_12 : decode cX7_init 12 = .ok (.putfield 15, 3) := by decide +kernel
theorem dX7_init_15 : decode cX7_init 15 = .ok (.return_, 1) := by decide +kernel
theorem dX7_put_0 : decode cX7_put 0 = .ok (.aload_n 0, 1) := by decide +kernel
theorem dX7_put_1 : decode cX7_put 1 = .ok (.getfield 21, 3) := by decide +kernel
theorem dX7_put_4 : decode cX7_put 4 = .ok (.aload_n 0, 1) := by decide +kernel
theorem dX7_put_5 : decode cX7_put 5 = .ok (.getfield 15, 3) := by decide +kernel
theorem dX7_put_8 : decode cX7_put 8 = .ok (.arraylength, 1) := by decide +kernel
theorem dX7_put_9 : decode cX7_put 9 = .ok (.if_icmp .ge 23, 3) := by decide +kernel
theorem dX7_put_12 : decode cX7_put 12 = .ok (.aload_n 0, 1) := by decide +kernel
theorem dX7_put_13 : decode cX7_put 13 = .ok (.getfield 15, 3) := by decide +kernel
theorem dX7_put_16 : decode cX7_put 16 = .ok (.aload_n 0, 1) := by decide +kernel
theorem dX7_put_17 : decode cX7_put 17 = .ok (.getfield 21, 3) := by decide +kernel
theorem dX7_put_20 : decode cX7_put 20 = .ok (.iload_n 1, 1) := by decide +kernel
theorem dX7_put_21 : decode cX7_put 21 = .ok (.iastore, 1) := by decide +kernel
theorem dX7_put_22 : decode cX7_put 22 = .ok (.aload_n 0, 1) := by decide +kernel
theorem dX7_put_23 : decode cX7_put 23 = .ok (.dup, 1) := by decide +kernel
theorem dX7_put_24 : decode cX7_put 24 = .ok (.getfield 21, 3) := by decide +kernel
theorem dX7_put_27 : decode cX7_put 27 = .ok (.iconst 1, 1) := by decide +kernel
theorem dX7_put_28 : decode cX7_put 28 = .ok (.iadd, 1) := by decide +kernel
theorem dX7_put_29 : decode cX7_put 29 = .ok (.putfield 21, 3) := by decide +kernel
theorem dX7_put_32 : decode cX7_put 32 = .ok (.return_, 1) := by decide +kernel
theorem dX7_atOrNone_0 : decode cX7_atOrNone 0 = .ok (.iload_n 1, 1) := by decide +kernel
theorem dX7_atOrNone_1 : decode cX7_atOrNone 1 = .ok (.ifCond .lt 20, 3) := by decide +kernel
theorem dX7_atOrNone_4 : decode cX7_atOrNone 4 = .ok (.iload_n 1, 1) := by decide +kernel
theorem dX7_atOrNone_5 : decode cX7_atOrNone 5 = .ok (.aload_n 0, 1) := by decide +kernel
theorem dX7_atOrNone_6 : decode cX7_atOrNone 6 = .ok (.getfield 21, 3) := by decide +kernel
theorem dX7_atOrNone_9 : decode cX7_atOrNone 9 = .ok (.if_icmp .ge 12, 3) := by decide +kernel
theorem dX7_atOrNone_12 : decode cX7_atOrNone 12 = .ok (.aload_n 0, 1) := by decide +kernel
theorem dX7_atOrNone_13 : decode cX7_atOrNone 13 = .ok (.getfield 15, 3) := by decide +kernel
theorem dX7_atOrNone_16 : decode cX7_atOrNone 16 = .ok (.iload_n 1, 1) := by decide +kernel
theorem dX7_atOrNone_17 : decode cX7_atOrNone 17 = .ok (.iaload, 1) := by decide +kernel
theorem dX7_atOrNone_18 : decode cX7_atOrNone 18 = .ok (.goto 4, 3) := by decide +kernel
theorem dX7_atOrNone_21 : decode cX7_atOrNone 21 = .ok (.iconst (-1), 1) := by decide +kernel
theorem dX7_atOrNone_22 : decode cX7_atOrNone 22 = .ok (.ireturn, 1) := by decide +kernel
theorem dX7_copyFrom_0 : decode cX7_copyFrom 0 = .ok (.aload_n 1, 1) := by decide +kernel
theorem dX7_copyFrom_1 : decode cX7_copyFrom 1 = .ok (.getfield 21, 3) := by decide +kernel
theorem dX7_copyFrom_4 : decode cX7_copyFrom 4 = .ok (.aload_n 0, 1) := by decide +kernel
theorem dX7_copyFrom_5 : decode cX7_copyFrom 5 = .ok (.getfield 15, 3) := by decide +kernel
theorem dX7_copyFrom_8 : decode cX7_copyFrom 8 = .ok (.arraylength, 1) := by decide +kernel
theorem dX7_copyFrom_9 : decode cX7_copyFrom 9 = .ok (.invokestatic 25, 3) := by decide +kernel
theorem dX7_copyFrom_12 : decode cX7_copyFrom 12 = .ok (.istore_n 2, 1) := by decide +kernel
theorem dX7_copyFrom_13 : decode cX7_copyFrom 13 = .ok (.aload_n 1, 1) := by decide +kernel
theorem dX7_copyFrom_14 : decode cX7_copyFrom 14 = .ok (.getfield 15, 3) := by decide +kernel
theorem dX7_copyFrom_17 : decode cX7_copyFrom 17 = .ok (.iconst 0, 1) := by decide +kernel
theorem dX7_copyFrom_18 : decode cX7_copyFrom 18 = .ok (.aload_n 0, 1) := by decide +kernel
theorem dX7_copyFrom_19 : decode cX7_copyFrom 19 = .ok (.getfield 15, 3) := by decide +kernel
theorem dX7_copyFrom_22 : decode cX7_copyFrom 22 = .ok (.iconst 0, 1) := by decide +kernel
theorem dX7_copyFrom_23 : decode cX7_copyFrom 23 = .ok (.iload_n 2, 1) := by decide +kernel
theorem dX7_copyFrom_24 : decode cX7_copyFrom 24 = .ok (.invokestatic 28, 3) := by decide +kernel
theorem dX7_copyFrom_27 : decode cX7_copyFrom 27 = .ok (.aload_n 0, 1) := by decide +kernel
theorem dX7_copyFrom_28 : decode cX7_copyFrom 28 = .ok (.iload_n 2, 1) := by decide +kernel
theorem dX7_copyFrom_29 : decode cX7_copyFrom 29 = .ok (.putfield 21, 3) := by decide +kernel
theorem dX7_copyFrom_32 : decode cX7_copyFrom 32 = .ok (.return_, 1) := by decide +kernel
theorem dX8_init_0 : decode cX8_init 0 = .ok (.aload_n 0, 1) := by decide +kernel
theorem dX8_init_1 : decode cX8_init 1 = .ok (.invokespecial 3, 3) := by decide +kernel
theorem dX8_init_4 : decode cX8_init 4 = .ok (.aload_n 0, 1) := by decide +kernel
theorem dX8_init_5 : decode cX8_init 5 = .ok (.new 9, 3) := by decide +kernel
theorem dX8_init_8 : decode cX8_init 8 = .ok (.dup, 1) := by decide +kernel
theorem dX8_init_9 : decode cX8_init 9 = .ok (.bipush 12, 2) := by decide +kernel
theorem dX8_init_11 : decode cX8_init 11 = .ok (.invokespecial 11, 3) := by decide +kernel
theorem dX8_init_14 : decode cX8_init 14 = .ok (.putfield 14, 3) := by decide +kernel
theorem dX8_init_17 : decode cX8_init 17 = .ok (.aload_n 0, 1) := by decide +kernel
theorem dX8_init_18 : decode cX8_init 18 = .ok (.bipush 12, 2) := by decide +kernel
theorem dX8_init_20 : decode cX8_init 20 = .ok (.newarray .int, 2) := by decide +kernel
theorem dX8_init_22 : decode cX8_init 22 = .ok (.putfield 20, 3) := by decide +kernel
theorem dX8_init_25 : decode cX8_init 25 = .ok (.aload_n 0, 1) := by decide +kernel
theorem dX8_init_26 : decode cX8_init 26 = .ok (.bipush 48, 2) := by decide +kernel
theorem dX8_init_28 : decode cX8_init 28 = .ok (.newarray .long, 2) := by decide +kernel
theorem dX8_init_30 : decode cX8_init 30 = .ok (.putfield 24, 3) := by decide +kernel
theorem dX8_init_33 : decode cX8_init 33 = .ok (.aload_n 0, 1) := by decide +kernel
theorem dX8_init_34 : decode cX8_init 34 = .ok (.bipush 40, 2) := by decide +kernel
theorem dX8_init_36 : decode cX8_init 36 = .ok (.newarray .long, 2) := by decide +kernel
theorem dX8_init_38 : decode cX8_init 38 = .ok (.putfield 28, 3) := by decide +kernel
theorem dX8_init_41 : decode cX8_init 41 = .ok (.aload_n 0, 1) := by decide +kernel
theorem dX8_init_42 : decode cX8_init 42 = .ok (.bipush 78, 2) := by decide +kernel
theorem dX8_init_44 : decode cX8_init 44 = .ok (.newarray .long, 2) := by decide +kernel
theorem dX8_init_46 : decode cX8_init 46 = .ok (.putfield 31, 3) := by decide +kernel
theorem dX8_init_49 : decode cX8_init 49 = .ok (.return_, 1) := by decide +kernel
theorem dX8_look_0 : decode cX8_look 0 = .ok (.aload_n 0, 1) := by decide +kernel
theorem dX8_look_1 : decode cX8_look 1 = .ok (.iconst 1, 1) := by decide +kernel
theorem dX8_look_2 : decode cX8_look 2 = .ok (.putfield 34, 3) := by decide +kernel
theorem dX8_look_5 : decode cX8_look 5 = .ok (.aload_n 0, 1) := by decide +kernel
theorem dX8_look_6 : decode cX8_look 6 = .ok (.aload_n 1, 1) := by decide +kernel
theorem dX8_look_7 : decode cX8_look 7 = .ok (.putfield 38, 3) := by decide +kernel
theorem dX8_look_10 : decode cX8_look 10 = .ok (.aload_n 0, 1) := by decide +kernel
theorem dX8_look_11 : decode cX8_look 11 = .ok (.iload 4, 2) := by decide +kernel
theorem dX8_look_13 : decode cX8_look 13 = .ok (.bipush 12, 2) := by decide +kernel
theorem dX8_look_15 : decode cX8_look 15 = .ok (.invokestatic 42, 3) := by decide +kernel
theorem dX8_look_18 : decode cX8_look 18 = .ok (.putfield 48, 3) := by decide +kernel
theorem dX8_look_21 : decode cX8_look 21 = .ok (.iconst 0, 1) := by decide +kernel
theorem dX8_look_22 : decode cX8_look 22 = .ok (.istore 5, 2) := by decide +kernel
theorem dX8_look_24 : decode cX8_look 24 = .ok (.iconst 0, 1) := by decide +kernel
theorem dX8_look_25 : decode cX8_look 25 = .ok (.istore 6, 2) := by decide +kernel
theorem dX8_look_27 : decode cX8_look 27 = .ok (.iload 6, 2) := by decide +kernel
theorem dX8_look_29 : decode cX8_look 29 = .ok (.aload_n 0, 1) := by decide +kernel
theorem dX8_look_30 : decode cX8_look 30 = .ok (.getfield 48, 3) := by decide +kernel
theorem dX8_look_33 : decode cX8_look 33 = .ok (.if_icmp .ge 63, 3) := by decide +kernel
theorem dX8_look_36 : decode cX8_look 36 = .ok (.aload_n 0, 1) := by decide +kernel
theorem dX8_look_37 : decode cX8_look 37 = .ok (.getfield 38, 3) := by decide +kernel
theorem dX8_look_40 : decode cX8_look 40 = .ok (.getfield 52, 3) := by decide +kernel
theorem dX8_look_43 : decode cX8_look 43 = .ok (.iload_n 3, 1) := by decide +kernel
theorem dX8_look_44 : decode cX8_look 44 = .ok (.iload 6, 2) := by decide +kernel
theorem dX8_look_46 : decode cX8_look 46 = .ok (.iconst 1, 1) := by decide +kernel
theorem dX8_look_47 : decode cX8_look 47 = .ok (.iadd, 1) := by decide +kernel
theorem dX8_look_48 : decode cX8_look 48 = .ok (.invokevirtual 58, 3) := by decide +kernel
theorem dX8_look_51 : decode cX8_look 51 = .ok (.istore 7, 2) := by decide +kernel
theorem dX8_look_53 : decode cX8_look 53 = .ok (.aload_n 0, 1) := by decide +kernel
theorem dX8_look_54 : decode cX8_look 54 = .ok (.getfield 20, 3) := by decide +kernel
theorem dX8_look_57 : decode cX8_look 57 = .ok (.iload 6, 2) := by decide +kernel
theorem dX8_look_59 : decode cX8_look 59 = .ok (.iload 7, 2) := by decide +kernel
theorem dX8_look_61 : decode cX8_look 61 = .ok (.ifCond .eq 7, 3) := by decide +kernel
theorem dX8_look_64 : decode cX8_look 64 = .ok (.iconst (-1), 1) := by decide +kernel
theorem dX8_look_65 : decode cX8_look 65 = .ok (.goto 9, 3) := by decide +kernel
theorem dX8_look_68 : decode cX8_look 68 = .ok (.aload_n 2, 1) := by decide +kernel
theorem dX8_look_69 : decode cX8_look 69 = .ok (.iload 5, 2) := by decide +kernel
theorem dX8_look_71 : decode cX8_look 71 = .ok (.invokevirtual 64, 3) := by decide +kernel
theorem dX8_look_74 : decode cX8_look 74 = .ok (.iastore, 1) := by decide +kernel
theorem dX8_look_75 : decode cX8_look 75 = .ok (.iload 5, 2) := by decide +kernel
theorem dX8_look_77 : decode cX8_look 77 = .ok (.iload 7, 2) := by decide +kernel
theorem dX8_look_79 : decode cX8_look 79 = .ok (.ifCond .eq 7, 3) := by decide +kernel
theorem dX8_look_82 : decode cX8_look 82 = .ok (.iconst 0, 1) := by decide +kernel
theorem dX8_look_83 : decode cX8_look 83 = .ok (.goto 4, 3) := by decide +kernel
theorem dX8_look_86 : decode cX8_look 86 = .ok (.iconst 1, 1) := by decide +kernel
theorem dX8_look_87 : decode cX8_look 87 = .ok (.iadd, 1) := by decide +kernel
theorem dX8_look_88 : decode cX8_look 88 = .ok (.istore 5, 2) := by decide +kernel
theorem dX8_look_90 : decode cX8_look 90 = .ok (.iinc 6 1, 3) := by decide +kernel
theorem dX8_look_93 : decode cX8_look 93 = .ok (.goto (-66), 3) := by decide +kernel
theorem dX8_look_96 : decode cX8_look 96 = .ok (.aload_n 0, 1) := by decide +kernel
theorem dX8_look_97 : decode cX8_look 97 = .ok (.invokevirtual 68, 3) := by decide +kernel
theorem dX8_look_100 : decode cX8_look 100 = .ok (.aload_n 0, 1) := by decide +kernel
theorem dX8_look_101 : decode cX8_look 101 = .ok (.invokevirtual 71, 3) := by decide +kernel
theorem dX8_look_104 : decode cX8_look 104 = .ok (.aload_n 0, 1) := by decide +kernel
theorem dX8_look_105 : decode cX8_look 105 = .ok (.invokevirtual 74, 3) := by decide +kernel
theorem dX8_look_108 : decode cX8_look 108 = .ok (.aload_n 0, 1) := by decide +kernel
theorem dX8_look_109 : decode cX8_look 109 = .ok (.aload_n 0, 1) := by decide +kernel
theorem dX8_look_110 : decode cX8_look 110 = .ok (.getfield 31, 3) := by decide +kernel
theorem dX8_look_113 : decode cX8_look 113 = .ok (.iconst 5, 1) := by decide +kernel
theorem dX8_look_114 : decode cX8_look 114 = .ok (.laload, 1) := by decide +kernel
theorem dX8_look_115 : decode cX8_look 115 = .ok (.putfield 77, 3) := by decide +kernel
theorem dX8_look_118 : decode cX8_look 118 = .ok (.aload_n 0, 1) := by decide +kernel
theorem dX8_look_119 : decode cX8_look 119 = .ok (.getfield 77, 3) := by decide +kernel
theorem dX8_look_122 : decode cX8_look 122 = .ok (.lconst 0, 1) := by decide +kernel
theorem dX8_look_123 : decode cX8_look 123 = .ok (.lcmp, 1) := by decide +kernel
theorem dX8_look_124 : decode cX8_look 124 = .ok (.ifCond .le 7, 3) := by decide +kernel
theorem dX8_look_127 : decode cX8_look 127 = .ok (.aload_n 0, 1) := by decide +kernel
theorem dX8_look_128 : decode cX8_look 128 = .ok (.invokevirtual 81, 3) := by decide +kernel
theorem dX8_look_131 : decode cX8_look 131 = .ok (.return_, 1) := by decide +kernel
theorem dX8_mayStandAt_0 : decode cX8_mayStandAt 0 = .ok (.aload_n 0, 1) := by decide +kernel
theorem dX8_mayStandAt_1 : decode cX8_mayStandAt 1 = .ok (.getfield 20, 3) := by decide +kernel
theorem dX8_mayStandAt_4 : decode cX8_mayStandAt 4 = .ok (.iload_n 1, 1) := by decide +kernel
theorem dX8_mayStandAt_5 : decode cX8_mayStandAt 5 = .ok (.iaload, 1) := by decide +kernel
theorem dX8_mayStandAt_6 : decode cX8_mayStandAt 6 = .ok (.iconst (-1), 1) := by decide +kernel
theorem dX8_mayStandAt_7 : decode cX8_mayStandAt 7 = .ok (.if_icmp .eq 13, 3) := by decide +kernel
theorem dX8_mayStandAt_10 : decode cX8_mayStandAt 10 = .ok (.aload_n 0, 1) := by decide +kernel
theorem dX8_mayStandAt_11 : decode cX8_mayStandAt 11 = .ok (.getfield 20, 3) := by decide +kernel
theorem dX8_mayStandAt_14 : decode cX8_mayStandAt 14 = .ok (.iload_n 1, 1) := by decide +kernel
theorem dX8_mayStandAt_15 : decode cX8_mayStandAt 15 = .ok (.iaload, 1) := by decide +kernel
theorem dX8_mayStandAt_16 : decode cX8_mayStandAt 16 = .ok (.iload_n 2, 1) := by decide +kernel
theorem dX8_mayStandAt_17 : decode cX8_mayStandAt 17 = .ok (.if_icmp .ne 7, 3) := by decide +kernel
theorem dX8_mayStandAt_20 : decode cX8_mayStandAt 20 = .ok (.iconst 1, 1) := by decide +kernel
theorem dX8_mayStandAt_21 : decode cX8_mayStandAt 21 = .ok (.goto 4, 3) := by decide +kernel
theorem dX8_mayStandAt_24 : decode cX8_mayStandAt 24 = .ok (.iconst 0, 1) := by decide +kernel
theorem dX8_mayStandAt_25 : decode cX8_mayStandAt 25 = .ok (.ireturn, 1) := by decide +kernel
theorem dX8_countAll_0 : decode cX8_countAll 0 = .ok (.aload_n 0, 1) := by decide +kernel
theorem dX8_countAll_1 : decode cX8_countAll 1 = .ok (.getfield 24, 3) := by decide +kernel
theorem dX8_countAll_4 : decode cX8_countAll 4 = .ok (.lconst 0, 1) := by decide +kernel
theorem dX8_countAll_5 : decode cX8_countAll 5 = .ok (.invokestatic 84, 3) := by decide +kernel
theorem dX8_countAll_8 : decode cX8_countAll 8 = .ok (.aload_n 0, 1) := by decide +kernel
theorem dX8_countAll_9 : decode cX8_countAll 9 = .ok (.getfield 24, 3) := by decide +kernel
theorem dX8_countAll_12 : decode cX8_countAll 12 = .ok (.bipush 40, 2) := by decide +kernel
theorem dX8_countAll_14 : decode cX8_countAll 14 = .ok (.lconst 1, 1) := by decide +kernel
theorem dX8_countAll_15 : decode cX8_countAll 15 = .ok (.lastore, 1) := by decide +kernel
theorem dX8_countAll_16 : decode cX8_countAll 16 = .ok (.iconst 0, 1) := by decide +kernel
theorem dX8_countAll_17 : decode cX8_countAll 17 = .ok (.istore_n 1, 1) := by decide +kernel
theorem dX8_countAll_18 : decode cX8_countAll 18 = .ok (.iload_n 1, 1) := by decide +kernel
theorem dX8_countAll_19 : decode cX8_countAll 19 = .ok (.aload_n 0, 1) := by decide +kernel
theorem dX8_countAll_20 : decode cX8_countAll 20 = .ok (.getfield 48, 3) := by decide +kernel
theorem dX8_countAll_23 : decode cX8_countAll 23 = .ok (.if_icmp .ge 54, 3) := by decide +kernel
theorem dX8_countAll_26 : decode cX8_countAll 26 = .ok (.aload_n 0, 1) := by decide +kernel
theorem dX8_countAll_27 : decode cX8_countAll 27 = .ok (.invokevirtual 90, 3) := by decide +kernel
theorem dX8_countAll_30 : decode cX8_countAll 30 = .ok (.aload_n 0, 1) := by decide +kernel
theorem dX8_countAll_31 : decode cX8_countAll 31 = .ok (.getfield 24, 3) := by decide +kernel
theorem dX8_countAll_34 : decode cX8_countAll 34 = .ok (.lconst 0, 1) := by decide +kernel
theorem dX8_countAll_35 : decode cX8_countAll 35 = .ok (.invokestatic 84, 3) := by decide +kernel
theorem dX8_countAll_38 : decode cX8_countAll 38 = .ok (.iconst 0, 1) := by decide +kernel
theorem dX8_countAll_39 : decode cX8_countAll 39 = .ok (.istore_n 2, 1) := by decide +kernel
theorem dX8_countAll_40 : decode cX8_countAll 40 = .ok (.iload_n 2, 1) := by decide +kernel
theorem dX8_countAll_41 : decode cX8_countAll 41 = .ok (.aload_n 0, 1) := by decide +kernel
theorem dX8_countAll_42 : decode cX8_countAll 42 = .ok (.getfield 38, 3) := by decide +kernel
theorem dX8_countAll_45 : decode cX8_countAll 45 = .ok (.getfield 93, 3) := by decide +kernel
theorem dX8_countAll_48 : decode cX8_countAll 48 = .ok (.if_icmp .ge 23, 3) := by decide +kernel
theorem dX8_countAll_51 : decode cX8_countAll 51 = .ok (.aload_n 0, 1) := by decide +kernel
theorem dX8_countAll_52 : decode cX8_countAll 52 = .ok (.iload_n 1, 1) := by decide +kernel
theorem dX8_countAll_53 : decode cX8_countAll 53 = .ok (.iload_n 2, 1) := by decide +kernel
theorem dX8_countAll_54 : decode cX8_countAll 54 = .ok (.invokevirtual 96, 3) := by decide +kernel
theorem dX8_countAll_57 : decode cX8_countAll 57 = .ok (.ifCond .eq 8, 3) := by decide +kernel
theorem dX8_countAll_60 : decode cX8_countAll 60 = .ok (.aload_n 0, 1) := by decide +kernel
theorem dX8_countAll_61 : decode cX8_countAll 61 = .ok (.iload_n 2, 1) := by decide +kernel
theorem dX8_countAll_62 : decode cX8_countAll 62 = .ok (.invokevirtual 99, 3) := by decide +kernel
theorem dX8_countAll_65 : decode cX8_countAll 65 = .ok (.iinc 2 1, 3) := by decide +kernel
theorem dX8_countAll_68 : decode cX8_countAll 68 = .ok (.goto (-28), 3) := by decide +kernel
theorem dX8_countAll_71 : decode cX8_countAll 71 = .ok (.iinc 1 1, 3) := by decide +kernel
theorem dX8_countAll_74 : decode cX8_countAll 74 = .ok (.goto (-56), 3) := by decide +kernel
theorem dX8_countAll_77 : decode cX8_countAll 77 = .ok (.aload_n 0, 1) := by decide +kernel
theorem dX8_countAll_78 : decode cX8_countAll 78 = .ok (.lconst 0, 1) := by decide +kernel
theorem dX8_countAll_79 : decode cX8_countAll 79 = .ok (.putfield 102, 3) := by decide +kernel
theorem dX8_countAll_82 : decode cX8_countAll 82 = .ok (.aload_n 0, 1) := by decide +kernel
theorem dX8_countAll_83 : decode cX8_countAll 83 = .ok (.iconst 0, 1) := by decide +kernel
theorem dX8_countAll_84 : decode cX8_countAll 84 = .ok (.putfield 105, 3) := by decide +kernel
theorem dX8_countAll_87 : decode cX8_countAll 87 = .ok (.iconst 0, 1) := by decide +kernel
theorem dX8_countAll_88 : decode cX8_countAll 88 = .ok (.istore_n 1, 1) := by decide +kernel
theorem dX8_countAll_89 : decode cX8_countAll 89 = .ok (.iload_n 1, 1) := by decide +kernel
theorem dX8_countAll_90 : decode cX8_countAll 90 = .ok (.bipush 40, 2) := by decide +kernel
theorem dX8_countAll_92 : decode cX8_countAll 92 = .ok (.if_icmp .ge 64, 3) := by decide +kernel
theorem dX8_countAll_95 : decode cX8_countAll 95 = .ok (.aload_n 0, 1) := by decide +kernel
theorem dX8_countAll_96 : decode cX8_countAll 96 = .ok (.getfield 24, 3) := by decide +kernel
theorem dX8_countAll_99 : decode cX8_countAll 99 = .ok (.iload_n 1, 1) := by decide +kernel
theorem dX8_countAll_100 : decode cX8_countAll 100 = .ok (.laload, 1) := by decide +kernel
theorem dX8_countAll_101 : decode cX8_countAll 101 = .ok (.lconst 0, 1) := by decide +kernel
theorem dX8_countAll_102 : decode cX8_countAll 102 = .ok (.lcmp, 1) := by decide +kernel
theorem dX8_countAll_103 : decode cX8_countAll 103 = .ok (.ifCond .eq 47, 3) := by decide +kernel
theorem dX8_countAll_106 : decode cX8_countAll 106 = .ok (.aload_n 0, 1) := by decide +kernel
theorem dX8_countAll_107 : decode cX8_countAll 107 = .ok (.getfield 38, 3) := by decide +kernel
theorem dX8_countAll_110 : decode cX8_countAll 110 = .ok (.iload_n 1, 1) := by decide +kernel
theorem dX8_countAll_111 : decode cX8_countAll 111 = .ok (.bipush 8, 2) := by decide +kernel
theorem dX8_countAll_113 : decode cX8_countAll 113 = .ok (.idiv, 1) := by decide +kernel
theorem dX8_countAll_114 : decode cX8_countAll 114 = .ok (.invokevirtual 108, 3) := by decide +kernel
theorem dX8_countAll_117 : decode cX8_countAll 117 = .ok (.ifCond .eq 33, 3) := by decide +kernel
theorem dX8_countAll_120 : decode cX8_countAll 120 = .ok (.aload_n 0, 1) := by decide +kernel
theorem dX8_countAll_121 : decode cX8_countAll 121 = .ok (.dup, 1) := by decide +kernel
theorem dX8_countAll_122 : decode cX8_countAll 122 = .ok (.getfield 102, 3) := by decide +kernel
theorem dX8_countAll_125 : decode cX8_countAll 125 = .ok (.aload_n 0, 1) := by decide +kernel
theorem dX8_countAll_126 : decode cX8_countAll 126 = .ok (.getfield 24, 3) := by decide +kernel
theorem dX8_countAll_129 : decode cX8_countAll 129 = .ok (.iload_n 1, 1) := by decide +kernel
theorem dX8_countAll_130 : decode cX8_countAll 130 = .ok (.laload, 1) := by decide +kernel
theorem dX8_countAll_131 : decode cX8_countAll 131 = .ok (.ladd, 1) := by decide +kernel
theorem dX8_countAll_132 : decode cX8_countAll 132 = .ok (.putfield 102, 3) := by decide +kernel
theorem dX8_countAll_135 : decode cX8_countAll 135 = .ok (.aload_n 0, 1) := by decide +kernel
theorem dX8_countAll_136 : decode cX8_countAll 136 = .ok (.dup, 1) := by decide +kernel
theorem dX8_countAll_137 : decode cX8_countAll 137 = .ok (.getfield 105, 3) := by decide +kernel
theorem dX8_countAll_140 : decode cX8_countAll 140 = .ok (.iconst 1, 1) := by decide +kernel
theorem dX8_countAll_141 : decode cX8_countAll 141 = .ok (.iload_n 1, 1) := by decide +kernel
theorem dX8_countAll_142 : decode cX8_countAll 142 = .ok (.bipush 8, 2) := by decide +kernel
theorem dX8_countAll_144 : decode cX8_countAll 144 = .ok (.irem, 1) := by decide +kernel
theorem dX8_countAll_145 : decode cX8_countAll 145 = .ok (.ishl, 1) := by decide +kernel
theorem dX8_countAll_146 : decode cX8_countAll 146 = .ok (.ior, 1) := by decide +kernel
theorem dX8_countAll_147 : decode cX8_countAll 147 = .ok (.putfield 105, 3) := by decide +kernel
theorem dX8_countAll_150 : decode cX8_countAll 150 = .ok (.iinc 1 1, 3) := by decide +kernel
theorem dX8_countAll_153 : decode cX8_countAll 153 = .ok (.goto (-64), 3) := by decide +kernel
theorem dX8_countAll_156 : decode cX8_countAll 156 = .ok (.return_, 1) := by decide +kernel
theorem dX8_sumWhatIsAhead_0 : decode cX8_sumWhatIsAhead 0 = .ok (.aload_n 0, 1) := by decide +kernel
theorem dX8_sumWhatIsAhead_1 : decode cX8_sumWhatIsAhead 1 = .ok (.getfield 28, 3) := by decide +kernel
theorem dX8_sumWhatIsAhead_4 : decode cX8_sumWhatIsAhead 4 = .ok (.lconst 0, 1) := by decide +kernel
theorem dX8_sumWhatIsAhead_5 : decode cX8_sumWhatIsAhead 5 = .ok (.invokestatic 84, 3) := by decide +kernel
theorem dX8_sumWhatIsAhead_8 : decode cX8_sumWhatIsAhead 8 = .ok (.iconst 0, 1) := by decide +kernel
theorem dX8_sumWhatIsAhead_9 : decode cX8_sumWhatIsAhead 9 = .ok (.istore_n 1, 1) := by decide +kernel
theorem dX8_sumWhatIsAhead_10 : decode cX8_sumWhatIsAhead 10 = .ok (.iload_n 1, 1) := by decide +kernel
theorem dX8_sumWhatIsAhead_11 : decode cX8_sumWhatIsAhead 11 = .ok (.aload_n 0, 1) := by decide +kernel
theorem dX8_sumWhatIsAhead_12 : decode cX8_sumWhatIsAhead 12 = .ok (.getfield 38, 3) := by decide +kernel
theorem dX8_sumWhatIsAhead_15 : decode cX8_sumWhatIsAhead 15 = .ok (.getfield 112, 3) := by decide +kernel
theorem dX8_sumWhatIsAhead_18 : decode cX8_sumWhatIsAhead 18 = .ok (.if_icmp .ge 73, 3) := by decide +kernel
theorem dX8_sumWhatIsAhead_21 : decode cX8_sumWhatIsAhead 21 = .ok (.iconst 0, 1) := by decide +kernel
theorem dX8_sumWhatIsAhead_22 : decode cX8_sumWhatIsAhead 22 = .ok (.istore_n 2, 1) := by decide +kernel
theorem dX8_sumWhatIsAhead_23 : decode cX8_sumWhatIsAhead 23 = .ok (.iload_n 2, 1) := by decide +kernel
theorem dX8_sumWhatIsAhead_24 : decode cX8_sumWhatIsAhead 24 = .ok (.iconst 5, 1) := by decide +kernel
theorem dX8_sumWhatIsAhead_25 : decode cX8_sumWhatIsAhead 25 = .ok (.if_icmp .gt 60, 3) := by decide +kernel
theorem dX8_sumWhatIsAhead_28 : decode cX8_sumWhatIsAhead 28 = .ok (.iconst 0, 1) := by decide +kernel
theorem dX8_sumWhatIsAhead_29 : decode cX8_sumWhatIsAhead 29 = .ok (.istore_n 3, 1) := by decide +kernel
theorem dX8_sumWhatIsAhead_30 : decode cX8_sumWhatIsAhead 30 = .ok (.iload_n 3, 1) := by decide +kernel
theorem dX8_sumWhatIsAhead_31 : decode cX8_sumWhatIsAhead 31 = .ok (.bipush 8, 2) := by decide +kernel
theorem dX8_sumWhatIsAhead_33 : decode cX8_sumWhatIsAhead 33 = .ok (.if_icmp .ge 46, 3) := by decide +kernel
theorem dX8_sumWhatIsAhead_36 : decode cX8_sumWhatIsAhead 36 = .ok (.aload_n 0, 1) := by decide +kernel
theorem dX8_sumWhatIsAhead_37 : decode cX8_sumWhatIsAhead 37 = .ok (.getfield 38, 3) := by decide +kernel
theorem dX8_sumWhatIsAhead_40 : decode cX8_sumWhatIsAhead 40 = .ok (.iload_n 2, 1) := by decide +kernel
theorem dX8_sumWhatIsAhead_41 : decode cX8_sumWhatIsAhead 41 = .ok (.iload_n 1, 1) := by decide +kernel
theorem dX8_sumWhatIsAhead_42 : decode cX8_sumWhatIsAhead 42 = .ok (.invokevirtual 115, 3) := by decide +kernel
theorem dX8_sumWhatIsAhead_45 : decode cX8_sumWhatIsAhead 45 = .ok (.ifCond .eq 34, 3) := by decide +kernel
theorem dX8_sumWhatIsAhead_48 : decode cX8_sumWhatIsAhead 48 = .ok (.aload_n 0, 1) := by decide +kernel
theorem dX8_sumWhatIsAhead_49 : decode cX8_sumWhatIsAhead 49 = .ok (.getfield 28, 3) := by decide +kernel
theorem dX8_sumWhatIsAhead_52 : decode cX8_sumWhatIsAhead 52 = .ok (.iload_n 1, 1) := by decide +kernel
theorem dX8_sumWhatIsAhead_53 : decode cX8_sumWhatIsAhead 53 = .ok (.bipush 8, 2) := by decide +kernel
theorem dX8_sumWhatIsAhead_55 : decode cX8_sumWhatIsAhead 55 = .ok (.imul, 1) := by decide +kernel
theorem dX8_sumWhatIsAhead_56 : decode cX8_sumWhatIsAhead 56 = .ok (.iload_n 3, 1) := by decide +kernel
theorem dX8_sumWhatIsAhead_57 : decode cX8_sumWhatIsAhead 57 = .ok (.iadd, 1) := by decide +kernel
theorem dX8_sumWhatIsAhead_58 : decode cX8_sumWhatIsAhead 58 = .ok (.dup2, 1) := by decide +kernel
theorem dX8_sumWhatIsAhead_59 : decode cX8_sumWhatIsAhead 59 = .ok (.laload, 1) := by decide +kernel
theorem dX8_sumWhatIsAhead_60 : decode cX8_sumWhatIsAhead 60 = .ok (.aload_n 0, 1) := by decide +kernel
theorem dX8_sumWhatIsAhead_61 : decode cX8_sumWhatIsAhead 61 = .ok (.getfield 24, 3) := by decide +kernel
theorem dX8_sumWhatIsAhead_64 : decode cX8_sumWhatIsAhead 64 = .ok (.iload_n 2, 1) := by decide +kernel
theorem dX8_sumWhatIsAhead_65 : decode cX8_sumWhatIsAhead 65 = .ok (.bipush 8, 2) := by decide +kernel
theorem dX8_sumWhatIsAhead_67 : decode cX8_sumWhatIsAhead 67 = .ok (.imul, 1) := by decide +kernel
theorem dX8_sumWhatIsAhead_68 : decode cX8_sumWhatIsAhead 68 = .ok (.iload_n 3, 1) := by decide +kernel
theorem dX8_sumWhatIsAhead_69 : decode cX8_sumWhatIsAhead 69 = .ok (.iadd, 1) := by decide +kernel
theorem dX8_sumWhatIsAhead_70 : decode cX8_sumWhatIsAhead 70 = .ok (.laload, 1) := by decide +kernel
theorem dX8_sumWhatIsAhead_71 : decode cX8_sumWhatIsAhead 71 = .ok (.ladd, 1) := by decide +kernel
theorem dX8_sumWhatIsAhead_72 : decode cX8_sumWhatIsAhead 72 = .ok (.lastore, 1) := by decide +kernel
theorem dX8_sumWhatIsAhead_73 : decode cX8_sumWhatIsAhead 73 = .ok (.iinc 3 1, 3) := by decide +kernel
theorem dX8_sumWhatIsAhead_76 : decode cX8_sumWhatIsAhead 76 = .ok (.goto (-46), 3) := by decide +kernel
theorem dX8_sumWhatIsAhead_79 : decode cX8_sumWhatIsAhead 79 = .ok (.iinc 2 1, 3) := by decide +kernel
theorem dX8_sumWhatIsAhead_82 : decode cX8_sumWhatIsAhead 82 = .ok (.goto (-59), 3) := by decide +kernel
theorem dX8_sumWhatIsAhead_85 : decode cX8_sumWhatIsAhead 85 = .ok (.iinc 1 1, 3) := by decide +kernel
theorem dX8_sumWhatIsAhead_88 : decode cX8_sumWhatIsAhead 88 = .ok (.goto (-78), 3) := by decide +kernel
theorem dX8_sumWhatIsAhead_91 : decode cX8_sumWhatIsAhead 91 = .ok (.return_, 1) := by decide +kernel
theorem dX8_countWith_0 : decode cX8_countWith 0 = .ok (.iconst 0, 1) := by decide +kernel
theorem dX8_countWith_1 : decode cX8_countWith 1 = .ok (.istore_n 2, 1) := by decide +kernel
theorem dX8_countWith_2 : decode cX8_countWith 2 = .ok (.iload_n 2, 1) := by decide +kernel
theorem dX8_countWith_3 : decode cX8_countWith 3 = .ok (.aload_n 0, 1) := by decide +kernel
theorem dX8_countWith_4 : decode cX8_countWith 4 = .ok (.getfield 38, 3) := by decide +kernel
theorem dX8_countWith_7 : decode cX8_countWith 7 = .ok (.getfield 112, 3) := by decide +kernel
theorem dX8_countWith_10 : decode cX8_countWith 10 = .ok (.if_icmp .ge 69, 3) := by decide +kernel
theorem dX8_countWith_13 : decode cX8_countWith 13 = .ok (.iconst 0, 1) := by decide +kernel
theorem dX8_countWith_14 : decode cX8_countWith 14 = .ok (.istore_n 3, 1) := by decide +kernel
theorem dX8_countWith_15 : decode cX8_countWith 15 = .ok (.iload_n 3, 1) := by decide +kernel
theorem dX8_countWith_16 : decode cX8_countWith 16 = .ok (.bipush 8, 2) := by decide +kernel
theorem dX8_countWith_18 : decode cX8_countWith 18 = .ok (.if_icmp .ge 55, 3) := by decide +kernel
theorem dX8_countWith_21 : decode cX8_countWith 21 = .ok (.aload_n 0, 1) := by decide +kernel
theorem dX8_countWith_22 : decode cX8_countWith 22 = .ok (.getfield 38, 3) := by decide +kernel
theorem dX8_countWith_25 : decode cX8_countWith 25 = .ok (.iload_n 1, 1) := by decide +kernel
theorem dX8_countWith_26 : decode cX8_countWith 26 = .ok (.iload_n 2, 1) := by decide +kernel
theorem dX8_countWith_27 : decode cX8_countWith 27 = .ok (.invokevirtual 118, 3) := by decide +kernel
theorem dX8_countWith_30 : decode cX8_countWith 30 = .ok (.ifCond .eq 43, 3) := by decide +kernel
theorem dX8_countWith_33 : decode cX8_countWith 33 = .ok (.aload_n 0, 1) := by decide +kernel
theorem dX8_countWith_34 : decode cX8_countWith 34 = .ok (.getfield 24, 3) := by decide +kernel
theorem dX8_countWith_37 : decode cX8_countWith 37 = .ok (.iload_n 2, 1) := by decide +kernel
theorem dX8_countWith_38 : decode cX8_countWith 38 = .ok (.bipush 8, 2) := by decide +kernel
theorem dX8_countWith_40 : decode cX8_countWith 40 = .ok (.imul, 1) := by decide +kernel
theorem dX8_countWith_41 : decode cX8_countWith 41 = .ok (.aload_n 0, 1) := by decide +kernel
theorem dX8_countWith_42 : decode cX8_countWith 42 = .ok (.getfield 38, 3) := by decide +kernel
theorem dX8_countWith_45 : decode cX8_countWith 45 = .ok (.iload_n 1, 1) := by decide +kernel
theorem dX8_countWith_46 : decode cX8_countWith 46 = .ok (.iload_n 2, 1) := by decide +kernel
theorem dX8_countWith_47 : decode cX8_countWith 47 = .ok (.iload_n 3, 1) := by decide +kernel
theorem dX8_countWith_48 : decode cX8_countWith 48 = .ok (.invokevirtual 121, 3) := by decide +kernel
theorem dX8_countWith_51 : decode cX8_countWith 51 = .ok (.iadd, 1) := by decide +kernel
theorem dX8_countWith_52 : decode cX8_countWith 52 = .ok (.dup2, 1) := by decide +kernel
theorem dX8_countWith_53 : decode cX8_countWith 53 = .ok (.laload, 1) := by decide +kernel
theorem dX8_countWith_54 : decode cX8_countWith 54 = .ok (.aload_n 0, 1) := by decide +kernel
theorem dX8_countWith_55 : decode cX8_countWith 55 = .ok (.getfield 28, 3) := by decide +kernel
theorem dX8_countWith_58 : decode cX8_countWith 58 = .ok (.iload_n 2, 1) := by decide +kernel
theorem dX8_countWith_59 : decode cX8_countWith 59 = .ok (.bipush 8, 2) := by decide +kernel
theorem dX8_countWith_61 : decode cX8_countWith 61 = .ok (.imul, 1) := by decide +kernel
theorem dX8_countWith_62 : decode cX8_countWith 62 = .ok (.iload_n 3, 1) := by decide +kernel
theorem dX8_countWith_63 : decode cX8_countWith 63 = .ok (.iadd, 1) := by decide +kernel
theorem dX8_countWith_64 : decode cX8_countWith 64 = .ok (.laload, 1) := by decide +kernel
theorem dX8_countWith_65 : decode cX8_countWith 65 = .ok (.ladd, 1) := by decide +kernel
theorem dX8_countWith_66 : decode cX8_countWith 66 = .ok (.lastore, 1) := by decide +kernel
theorem dX8_countWith_67 : decode cX8_countWith 67 = .ok (.iinc 3 1, 3) := by decide +kernel
theorem dX8_countWith_70 : decode cX8_countWith 70 = .ok (.goto (-55), 3) := by decide +kernel
theorem dX8_countWith_73 : decode cX8_countWith 73 = .ok (.iinc 2 1, 3) := by decide +kernel
theorem dX8_countWith_76 : decode cX8_countWith 76 = .ok (.goto (-74), 3) := by decide +kernel
theorem dX8_countWith_79 : decode cX8_countWith 79 = .ok (.return_, 1) := by decide +kernel
