theorem dX12_total_54 : decode cX12_total 54 = .ok (.iconst (-1), 1) := by decide +kernel
theorem dX12_total_55 : decode cX12_total 55 = .ok (.ireturn, 1) := by decide +kernel
theorem dX12_total_56 : decode cX12_total 56 = .ok (.iload_n 3, 1) := by decide +kernel
theorem dX12_total_57 : decode cX12_total 57 = .ok (.iload 5, 2) := by decide +kernel
theorem dX12_total_59 : decode cX12_total 59 = .ok (.iadd, 1) := by decide +kernel
theorem dX12_total_60 : decode cX12_total 60 = .ok (.istore_n 3, 1) := by decide +kernel
theorem dX12_total_61 : decode cX12_total 61 = .ok (.iinc 4 1, 3) := by decide +kernel
theorem dX12_total_64 : decode cX12_total 64 = .ok (.goto (-35), 3) := by decide +kernel
theorem dX12_total_67 : decode cX12_total 67 = .ok (.iload_n 3, 1) := by decide +kernel
theorem dX12_total_68 : decode cX12_total 68 = .ok (.ireturn, 1) := by decide +kernel
theorem dX12_aheadNow_0 : decode cX12_aheadNow 0 = .ok (.aload_n 0, 1) := by decide +kernel
theorem dX12_aheadNow_1 : decode cX12_aheadNow 1 = .ok (.getfield 16, 3) := by decide +kernel
theorem dX12_aheadNow_4 : decode cX12_aheadNow 4 = .ok (.iload_n 1, 1) := by decide +kernel
theorem dX12_aheadNow_5 : decode cX12_aheadNow 5 = .ok (.iaload, 1) := by decide +kernel
theorem dX12_aheadNow_6 : decode cX12_aheadNow 6 = .ok (.istore_n 3, 1) := by decide +kernel
theorem dX12_aheadNow_7 : decode cX12_aheadNow 7 = .ok (.aload_n 0, 1) := by decide +kernel
theorem dX12_aheadNow_8 : decode cX12_aheadNow 8 = .ok (.getfield 93, 3) := by decide +kernel
theorem dX12_aheadNow_11 : decode cX12_aheadNow 11 = .ok (.iload_n 1, 1) := by decide +kernel
theorem dX12_aheadNow_12 : decode cX12_aheadNow 12 = .ok (.iaload, 1) := by decide +kernel
theorem dX12_aheadNow_13 : decode cX12_aheadNow 13 = .ok (.aload_n 0, 1) := by decide +kernel
theorem dX12_aheadNow_14 : decode cX12_aheadNow 14 = .ok (.iload_n 2, 1) := by decide +kernel
theorem dX12_aheadNow_15 : decode cX12_aheadNow 15 = .ok (.aload_n 0, 1) := by decide +kernel
theorem dX12_aheadNow_16 : decode cX12_aheadNow 16 = .ok (.iload_n 3, 1) := by decide +kernel
theorem dX12_aheadNow_17 : decode cX12_aheadNow 17 = .ok (.invokevirtual 369, 3) := by decide +kernel
theorem dX12_aheadNow_20 : decode cX12_aheadNow 20 = .ok (.aload_n 0, 1) := by decide +kernel
theorem dX12_aheadNow_21 : decode cX12_aheadNow 21 = .ok (.iload_n 3, 1) := by decide +kernel
theorem dX12_aheadNow_22 : decode cX12_aheadNow 22 = .ok (.invokevirtual 366, 3) := by decide +kernel
theorem dX12_aheadNow_25 : decode cX12_aheadNow 25 = .ok (.isub, 1) := by decide +kernel
theorem dX12_aheadNow_26 : decode cX12_aheadNow 26 = .ok (.aload_n 0, 1) := by decide +kernel
theorem dX12_aheadNow_27 : decode cX12_aheadNow 27 = .ok (.getfield 93, 3) := by decide +kernel
theorem dX12_aheadNow_30 : decode cX12_aheadNow 30 = .ok (.iload_n 2, 1) := by decide +kernel
theorem dX12_aheadNow_31 : decode cX12_aheadNow 31 = .ok (.iaload, 1) := by decide +kernel
theorem dX12_aheadNow_32 : decode cX12_aheadNow 32 = .ok (.iadd, 1) := by decide +kernel
theorem dX12_aheadNow_33 : decode cX12_aheadNow 33 = .ok (.invokevirtual 381, 3) := by decide +kernel
theorem dX12_aheadNow_36 : decode cX12_aheadNow 36 = .ok (.isub, 1) := by decide +kernel
theorem dX12_aheadNow_37 : decode cX12_aheadNow 37 = .ok (.ireturn, 1) := by decide +kernel
theorem dX12_aheadIn_0 : decode cX12_aheadIn 0 = .ok (.ldc_w 391, 3) := by decide +kernel
theorem dX12_aheadIn_3 : decode cX12_aheadIn 3 = .ok (.istore 5, 2) := by decide +kernel
theorem dX12_aheadIn_5 : decode cX12_aheadIn 5 = .ok (.iconst 0, 1) := by decide +kernel
theorem dX12_aheadIn_6 : decode cX12_aheadIn 6 = .ok (.istore 6, 2) := by decide +kernel
theorem dX12_aheadIn_8 : decode cX12_aheadIn 8 = .ok (.iload 6, 2) := by decide +kernel
theorem dX12_aheadIn_10 : decode cX12_aheadIn 10 = .ok (.iconst 1, 1) := by decide +kernel
theorem dX12_aheadIn_11 : decode cX12_aheadIn 11 = .ok (.aload_n 0, 1) := by decide +kernel
theorem dX12_aheadIn_12 : decode cX12_aheadIn 12 = .ok (.getfield 72, 3) := by decide +kernel
theorem dX12_aheadIn_15 : decode cX12_aheadIn 15 = .ok (.iload_n 1, 1) := by decide +kernel
theorem dX12_aheadIn_16 : decode cX12_aheadIn 16 = .ok (.iaload, 1) := by decide +kernel
theorem dX12_aheadIn_17 : decode cX12_aheadIn 17 = .ok (.ishl, 1) := by decide +kernel
theorem dX12_aheadIn_18 : decode cX12_aheadIn 18 = .ok (.if_icmp .ge 87, 3) := by decide +kernel
theorem dX12_aheadIn_21 : decode cX12_aheadIn 21 = .ok (.iload 4, 2) := by decide +kernel
theorem dX12_aheadIn_23 : decode cX12_aheadIn 23 = .ok (.iconst (-1), 1) := by decide +kernel
theorem dX12_aheadIn_24 : decode cX12_aheadIn 24 = .ok (.if_icmp .ne 13, 3) := by decide +kernel
theorem dX12_aheadIn_27 : decode cX12_aheadIn 27 = .ok (.aload_n 0, 1) := by decide +kernel
theorem dX12_aheadIn_28 : decode cX12_aheadIn 28 = .ok (.iload_n 1, 1) := by decide +kernel
theorem dX12_aheadIn_29 : decode cX12_aheadIn 29 = .ok (.iload 6, 2) := by decide +kernel
theorem dX12_aheadIn_31 : decode cX12_aheadIn 31 = .ok (.invokevirtual 378, 3) := by decide +kernel
theorem dX12_aheadIn_34 : decode cX12_aheadIn 34 = .ok (.goto 25, 3) := by decide +kernel
theorem dX12_aheadIn_37 : decode cX12_aheadIn 37 = .ok (.iload 6, 2) := by decide +kernel
theorem dX12_aheadIn_39 : decode cX12_aheadIn 39 = .ok (.iload 4, 2) := by decide +kernel
theorem dX12_aheadIn_41 : decode cX12_aheadIn 41 = .ok (.if_icmp .ne 17, 3) := by decide +kernel
theorem dX12_aheadIn_44 : decode cX12_aheadIn 44 = .ok (.aload_n 0, 1) := by decide +kernel
theorem dX12_aheadIn_45 : decode cX12_aheadIn 45 = .ok (.iload_n 1, 1) := by decide +kernel
theorem dX12_aheadIn_46 : decode cX12_aheadIn 46 = .ok (.iload 6, 2) := by decide +kernel
theorem dX12_aheadIn_48 : decode cX12_aheadIn 48 = .ok (.invokevirtual 372, 3) := by decide +kernel
theorem dX12_aheadIn_51 : decode cX12_aheadIn 51 = .ok (.ifCond .eq 7, 3) := by decide +kernel
theorem dX12_aheadIn_54 : decode cX12_aheadIn 54 = .ok (.iconst 1, 1) := by decide +kernel
theorem dX12_aheadIn_55 : decode cX12_aheadIn 55 = .ok (.goto 4, 3) := by decide +kernel
theorem dX12_aheadIn_58 : decode cX12_aheadIn 58 = .ok (.iconst 0, 1) := by decide +kernel
theorem dX12_aheadIn_59 : decode cX12_aheadIn 59 = .ok (.istore 7, 2) := by decide +kernel
theorem dX12_aheadIn_61 : decode cX12_aheadIn 61 = .ok (.iload 7, 2) := by decide +kernel
theorem dX12_aheadIn_63 : decode cX12_aheadIn 63 = .ok (.ifCond .ne 6, 3) := by decide +kernel
theorem dX12_aheadIn_66 : decode cX12_aheadIn 66 = .ok (.goto 33, 3) := by decide +kernel
theorem dX12_aheadIn_69 : decode cX12_aheadIn 69 = .ok (.aload_n 0, 1) := by decide +kernel
theorem dX12_aheadIn_70 : decode cX12_aheadIn 70 = .ok (.iload_n 2, 1) := by decide +kernel
theorem dX12_aheadIn_71 : decode cX12_aheadIn 71 = .ok (.iload_n 3, 1) := by decide +kernel
theorem dX12_aheadIn_72 : decode cX12_aheadIn 72 = .ok (.invokevirtual 392, 3) := by decide +kernel
theorem dX12_aheadIn_75 : decode cX12_aheadIn 75 = .ok (.istore 8, 2) := by decide +kernel
theorem dX12_aheadIn_77 : decode cX12_aheadIn 77 = .ok (.iload 5, 2) := by decide +kernel
theorem dX12_aheadIn_79 : decode cX12_aheadIn 79 = .ok (.ldc_w 391, 3) := by decide +kernel
theorem dX12_aheadIn_82 : decode cX12_aheadIn 82 = .ok (.if_icmp .ne 8, 3) := by decide +kernel
theorem dX12_aheadIn_85 : decode cX12_aheadIn 85 = .ok (.iload 8, 2) := by decide +kernel
theorem dX12_aheadIn_87 : decode cX12_aheadIn 87 = .ok (.goto 10, 3) := by decide +kernel
theorem dX12_aheadIn_90 : decode cX12_aheadIn 90 = .ok (.iload 5, 2) := by decide +kernel
theorem dX12_aheadIn_92 : decode cX12_aheadIn 92 = .ok (.iload 8, 2) := by decide +kernel
theorem dX12_aheadIn_94 : decode cX12_aheadIn 94 = .ok (.invokestatic 168, 3) := by decide +kernel
theorem dX12_aheadIn_97 : decode cX12_aheadIn 97 = .ok (.istore 5, 2) := by decide +kernel
theorem dX12_aheadIn_99 : decode cX12_aheadIn 99 = .ok (.iinc 6 1, 3) := by decide +kernel
theorem dX12_aheadIn_102 : decode cX12_aheadIn 102 = .ok (.goto (-94), 3) := by decide +kernel
theorem dX12_aheadIn_105 : decode cX12_aheadIn 105 = .ok (.iload 5, 2) := by decide +kernel
theorem dX12_aheadIn_107 : decode cX12_aheadIn 107 = .ok (.ireturn, 1) := by decide +kernel
theorem dX12_aheadOf_0 : decode cX12_aheadOf 0 = .ok (.iconst 0, 1) := by decide +kernel
theorem dX12_aheadOf_1 : decode cX12_aheadOf 1 = .ok (.istore_n 3, 1) := by decide +kernel
theorem dX12_aheadOf_2 : decode cX12_aheadOf 2 = .ok (.iconst 0, 1) := by decide +kernel
theorem dX12_aheadOf_3 : decode cX12_aheadOf 3 = .ok (.istore 4, 2) := by decide +kernel
theorem dX12_aheadOf_5 : decode cX12_aheadOf 5 = .ok (.iload 4, 2) := by decide +kernel
theorem dX12_aheadOf_7 : decode cX12_aheadOf 7 = .ok (.aload_n 0, 1) := by decide +kernel
theorem dX12_aheadOf_8 : decode cX12_aheadOf 8 = .ok (.getfield 331, 3) := by decide +kernel
theorem dX12_aheadOf_11 : decode cX12_aheadOf 11 = .ok (.if_icmp .ge 37, 3) := by decide +kernel
theorem dX12_aheadOf_14 : decode cX12_aheadOf 14 = .ok (.aload_n 0, 1) := by decide +kernel
theorem dX12_aheadOf_15 : decode cX12_aheadOf 15 = .ok (.iload 4, 2) := by decide +kernel
theorem dX12_aheadOf_17 : decode cX12_aheadOf 17 = .ok (.iload_n 1, 1) := by decide +kernel
theorem dX12_aheadOf_18 : decode cX12_aheadOf 18 = .ok (.iload_n 2, 1) := by decide +kernel
theorem dX12_aheadOf_19 : decode cX12_aheadOf 19 = .ok (.iconst (-1), 1) := by decide +kernel
theorem dX12_aheadOf_20 : decode cX12_aheadOf 20 = .ok (.invokevirtual 395, 3) := by decide +kernel
theorem dX12_aheadOf_23 : decode cX12_aheadOf 23 = .ok (.istore 5, 2) := by decide +kernel
theorem dX12_aheadOf_25 : decode cX12_aheadOf 25 = .ok (.iload 5, 2) := by decide +kernel
theorem dX12_aheadOf_27 : decode cX12_aheadOf 27 = .ok (.ldc_w 391, 3) := by decide +kernel
theorem dX12_aheadOf_30 : decode cX12_aheadOf 30 = .ok (.if_icmp .ne 7, 3) := by decide +kernel
theorem dX12_aheadOf_33 : decode cX12_aheadOf 33 = .ok (.ldc_w 391, 3) := by decide +kernel
theorem dX12_aheadOf_36 : decode cX12_aheadOf 36 = .ok (.ireturn, 1) := by decide +kernel
theorem dX12_aheadOf_37 : decode cX12_aheadOf 37 = .ok (.iload_n 3, 1) := by decide +kernel
theorem dX12_aheadOf_38 : decode cX12_aheadOf 38 = .ok (.iload 5, 2) := by decide +kernel
theorem dX12_aheadOf_40 : decode cX12_aheadOf 40 = .ok (.iadd, 1) := by decide +kernel
theorem dX12_aheadOf_41 : decode cX12_aheadOf 41 = .ok (.istore_n 3, 1) := by decide +kernel
theorem dX12_aheadOf_42 : decode cX12_aheadOf 42 = .ok (.iinc 4 1, 3) := by decide +kernel
theorem dX12_aheadOf_45 : decode cX12_aheadOf 45 = .ok (.goto (-40), 3) := by decide +kernel
theorem dX12_aheadOf_48 : decode cX12_aheadOf 48 = .ok (.iload_n 3, 1) := by decide +kernel
theorem dX12_aheadOf_49 : decode cX12_aheadOf 49 = .ok (.ireturn, 1) := by decide +kernel
theorem dX12_ahead_0 : decode cX12_ahead 0 = .ok (.aload_n 0, 1) := by decide +kernel
theorem dX12_ahead_1 : decode cX12_ahead 1 = .ok (.iconst 0, 1) := by decide +kernel
theorem dX12_ahead_2 : decode cX12_ahead 2 = .ok (.putfield 180, 3) := by decide +kernel
theorem dX12_ahead_5 : decode cX12_ahead 5 = .ok (.aload_n 0, 1) := by decide +kernel
theorem dX12_ahead_6 : decode cX12_ahead 6 = .ok (.iload_n 1, 1) := by decide +kernel
theorem dX12_ahead_7 : decode cX12_ahead 7 = .ok (.invokevirtual 384, 3) := by decide +kernel
theorem dX12_ahead_10 : decode cX12_ahead 10 = .ok (.ifCond .eq 40, 3) := by decide +kernel
theorem dX12_ahead_13 : decode cX12_ahead 13 = .ok (.aload_n 0, 1) := by decide +kernel
theorem dX12_ahead_14 : decode cX12_ahead 14 = .ok (.iload_n 2, 1) := by decide +kernel
theorem dX12_ahead_15 : decode cX12_ahead 15 = .ok (.invokevirtual 384, 3) := by decide +kernel
theorem dX12_ahead_18 : decode cX12_ahead 18 = .ok (.ifCond .eq 32, 3) := by decide +kernel
theorem dX12_ahead_21 : decode cX12_ahead 21 = .ok (.iload_n 1, 1) := by decide +kernel
theorem dX12_ahead_22 : decode cX12_ahead 22 = .ok (.iload_n 2, 1) := by decide +kernel
theorem dX12_ahead_23 : decode cX12_ahead 23 = .ok (.if_icmp .eq 27, 3) := by decide +kernel
theorem dX12_ahead_26 : decode cX12_ahead 26 = .ok (.aload_n 0, 1) := by decide +kernel
theorem dX12_ahead_27 : decode cX12_ahead 27 = .ok (.getfield 16, 3) := by decide +kernel
theorem dX12_ahead_30 : decode cX12_ahead 30 = .ok (.iload_n 1, 1) := by decide +kernel
theorem dX12_ahead_31 : decode cX12_ahead 31 = .ok (.iaload, 1) := by decide +kernel
theorem dX12_ahead_32 : decode cX12_ahead 32 = .ok (.aload_n 0, 1) := by decide +kernel
theorem dX12_ahead_33 : decode cX12_ahead 33 = .ok (.getfield 16, 3) := by decide +kernel
theorem dX12_ahead_36 : decode cX12_ahead 36 = .ok (.iload_n 2, 1) := by decide +kernel
theorem dX12_ahead_37 : decode cX12_ahead 37 = .ok (.iaload, 1) := by decide +kernel
theorem dX12_ahead_38 : decode cX12_ahead 38 = .ok (.if_icmp .ne 12, 3) := by decide +kernel
theorem dX12_ahead_41 : decode cX12_ahead 41 = .ok (.aload_n 0, 1) := by decide +kernel
theorem dX12_ahead_42 : decode cX12_ahead 42 = .ok (.iload_n 1, 1) := by decide +kernel
theorem dX12_ahead_43 : decode cX12_ahead 43 = .ok (.iload_n 2, 1) := by decide +kernel
theorem dX12_ahead_44 : decode cX12_ahead 44 = .ok (.invokevirtual 399, 3) := by decide +kernel
theorem dX12_ahead_47 : decode cX12_ahead 47 = .ok (.goto 6, 3) := by decide +kernel
theorem dX12_ahead_50 : decode cX12_ahead 50 = .ok (.ldc_w 391, 3) := by decide +kernel
theorem dX12_ahead_53 : decode cX12_ahead 53 = .ok (.ireturn, 1) := by decide +kernel
theorem dX12_isFound_0 : decode cX12_isFound 0 = .ok (.iconst 0, 1) := by decide +kernel
theorem dX12_isFound_1 : decode cX12_isFound 1 = .ok (.istore_n 2, 1) := by decide +kernel
theorem dX12_isFound_2 : decode cX12_isFound 2 = .ok (.iload_n 2, 1) := by decide +kernel
theorem dX12_isFound_3 : decode cX12_isFound 3 = .ok (.iconst 1, 1) := by decide +kernel
theorem dX12_isFound_4 : decode cX12_isFound 4 = .ok (.aload_n 0, 1) := by decide +kernel
theorem dX12_isFound_5 : decode cX12_isFound 5 = .ok (.getfield 72, 3) := by decide +kernel
theorem dX12_isFound_8 : decode cX12_isFound 8 = .ok (.iload_n 1, 1) := by decide +kernel
theorem dX12_isFound_9 : decode cX12_isFound 9 = .ok (.iaload, 1) := by decide +kernel
theorem dX12_isFound_10 : decode cX12_isFound 10 = .ok (.ishl, 1) := by decide +kernel
theorem dX12_isFound_11 : decode cX12_isFound 11 = .ok (.if_icmp .ge 20, 3) := by decide +kernel
theorem dX12_isFound_14 : decode cX12_isFound 14 = .ok (.aload_n 0, 1) := by decide +kernel
theorem dX12_isFound_15 : decode cX12_isFound 15 = .ok (.iload_n 1, 1) := by decide +kernel
theorem dX12_isFound_16 : decode cX12_isFound 16 = .ok (.iload_n 2, 1) := by decide +kernel
theorem dX12_isFound_17 : decode cX12_isFound 17 = .ok (.invokevirtual 378, 3) := by decide +kernel
theorem dX12_isFound_20 : decode cX12_isFound 20 = .ok (.ifCond .eq 5, 3) := by decide +kernel
theorem dX12_isFound_23 : decode cX12_isFound 23 = .ok (.iconst 1, 1) := by decide +kernel
theorem dX12_isFound_24 : decode cX12_isFound 24 = .ok (.ireturn, 1) := by decide +kernel
theorem dX12_isFound_25 : decode cX12_isFound 25 = .ok (.iinc 2 1, 3) := by decide +kernel
theorem dX12_isFound_28 : decode cX12_isFound 28 = .ok (.goto (-26), 3) := by decide +kernel
theorem dX12_isFound_31 : decode cX12_isFound 31 = .ok (.iconst 0, 1) := by decide +kernel
theorem dX12_isFound_32 : decode cX12_isFound 32 = .ok (.ireturn, 1) := by decide +kernel
theorem dX12_areFound_0 : decode cX12_areFound 0 = .ok (.iconst 0, 1) := by decide +kernel
theorem dX12_areFound_1 : decode cX12_areFound 1 = .ok (.istore_n 1, 1) := by decide +kernel
theorem dX12_areFound_2 : decode cX12_areFound 2 = .ok (.iload_n 1, 1) := by decide +kernel
theorem dX12_areFound_3 : decode cX12_areFound 3 = .ok (.aload_n 0, 1) := by decide +kernel
theorem dX12_areFound_4 : decode cX12_areFound 4 = .ok (.getfield 331, 3) := by decide +kernel
theorem dX12_areFound_7 : decode cX12_areFound 7 = .ok (.if_icmp .ge 19, 3) := by decide +kernel
theorem dX12_areFound_10 : decode cX12_areFound 10 = .ok (.aload_n 0, 1) := by decide +kernel
theorem dX12_areFound_11 : decode cX12_areFound 11 = .ok (.iload_n 1, 1) := by decide +kernel
theorem dX12_areFound_12 : decode cX12_areFound 12 = .ok (.invokevirtual 402, 3) := by decide +kernel
theorem dX12_areFound_15 : decode cX12_areFound 15 = .ok (.ifCond .ne 5, 3) := by decide +kernel
theorem dX12_areFound_18 : decode cX12_areFound 18 = .ok (.iconst 0, 1) := by decide +kernel
theorem dX12_areFound_19 : decode cX12_areFound 19 = .ok (.ireturn, 1) := by decide +kernel
theorem dX12_areFound_20 : decode cX12_areFound 20 = .ok (.iinc 1 1, 3) := by decide +kernel
theorem dX12_areFound_23 : decode cX12_areFound 23 = .ok (.goto (-21), 3) := by decide +kernel
theorem dX12_areFound_26 : decode cX12_areFound 26 = .ok (.iconst 1, 1) := by decide +kernel
theorem dX12_areFound_27 : decode cX12_areFound 27 = .ok (.ireturn, 1) := by decide +kernel
theorem dX12_isWinner_0 : decode cX12_isWinner 0 = .ok (.iconst 0, 1) := by decide +kernel
theorem dX12_isWinner_1 : decode cX12_isWinner 1 = .ok (.istore_n 2, 1) := by decide +kernel
theorem dX12_isWinner_2 : decode cX12_isWinner 2 = .ok (.iload_n 2, 1) := by decide +kernel
theorem dX12_isWinner_3 : decode cX12_isWinner 3 = .ok (.aload_n 0, 1) := by decide +kernel
theorem dX12_isWinner_4 : decode cX12_isWinner 4 = .ok (.getfield 177, 3) := by decide +kernel
theorem dX12_isWinner_7 : decode cX12_isWinner 7 = .ok (.if_icmp .ge 41, 3) := by decide +kernel
theorem dX12_isWinner_10 : decode cX12_isWinner 10 = .ok (.iload_n 2, 1) := by decide +kernel
theorem dX12_isWinner_11 : decode cX12_isWinner 11 = .ok (.iload_n 1, 1) := by decide +kernel
theorem dX12_isWinner_12 : decode cX12_isWinner 12 = .ok (.if_icmp .eq 30, 3) := by decide +kernel
theorem dX12_isWinner_15 : decode cX12_isWinner 15 = .ok (.aload_n 0, 1) := by decide +kernel
theorem dX12_isWinner_16 : decode cX12_isWinner 16 = .ok (.getfield 16, 3) := by decide +kernel
theorem dX12_isWinner_19 : decode cX12_isWinner 19 = .ok (.iload_n 2, 1) := by decide +kernel
theorem dX12_isWinner_20 : decode cX12_isWinner 20 = .ok (.iaload, 1) := by decide +kernel
theorem dX12_isWinner_21 : decode cX12_isWinner 21 = .ok (.aload_n 0, 1) := by decide +kernel
theorem dX12_isWinner_22 : decode cX12_isWinner 22 = .ok (.getfield 16, 3) := by decide +kernel
theorem dX12_isWinner_25 : decode cX12_isWinner 25 = .ok (.iload_n 1, 1) := by decide +kernel
theorem dX12_isWinner_26 : decode cX12_isWinner 26 = .ok (.iaload, 1) := by decide +kernel
theorem dX12_isWinner_27 : decode cX12_isWinner 27 = .ok (.if_icmp .ne 15, 3) := by decide +kernel
theorem dX12_isWinner_30 : decode cX12_isWinner 30 = .ok (.aload_n 0, 1) := by decide +kernel
theorem dX12_isWinner_31 : decode cX12_isWinner 31 = .ok (.iload_n 1, 1) := by decide +kernel
theorem dX12_isWinner_32 : decode cX12_isWinner 32 = .ok (.iload_n 2, 1) := by decide +kernel
theorem dX12_isWinner_33 : decode cX12_isWinner 33 = .ok (.invokevirtual 399, 3) := by decide +kernel
theorem dX12_isWinner_36 : decode cX12_isWinner 36 = .ok (.iconst 1, 1) := by decide +kernel
theorem dX12_isWinner_37 : decode cX12_isWinner 37 = .ok (.if_icmp .ge 5, 3) := by decide +kernel
theorem dX12_isWinner_40 : decode cX12_isWinner 40 = .ok (.iconst 0, 1) := by decide +kernel
theorem dX12_isWinner_41 : decode cX12_isWinner 41 = .ok (.ireturn, 1) := by decide +kernel
theorem dX12_isWinner_42 : decode cX12_isWinner 42 = .ok (.iinc 2 1, 3) := by decide +kernel
theorem dX12_isWinner_45 : decode cX12_isWinner 45 = .ok (.goto (-43), 3) := by decide +kernel
theorem dX12_isWinner_48 : decode cX12_isWinner 48 = .ok (.iconst 1, 1) := by decide +kernel
theorem dX12_isWinner_49 : decode cX12_isWinner 49 = .ok (.ireturn, 1) := by decide +kernel
theorem dX12_wins_0 : decode cX12_wins 0 = .ok (.aload_n 0, 1) := by decide +kernel
theorem dX12_wins_1 : decode cX12_wins 1 = .ok (.iconst 0, 1) := by decide +kernel
theorem dX12_wins_2 : decode cX12_wins 2 = .ok (.putfield 180, 3) := by decide +kernel
theorem dX12_wins_5 : decode cX12_wins 5 = .ok (.iload_n 1, 1) := by decide +kernel
theorem dX12_wins_6 : decode cX12_wins 6 = .ok (.iconst 0, 1) := by decide +kernel
theorem dX12_wins_7 : decode cX12_wins 7 = .ok (.aload_n 0, 1) := by decide +kernel
theorem dX12_wins_8 : decode cX12_wins 8 = .ok (.getfield 189, 3) := by decide +kernel
theorem dX12_wins_11 : decode cX12_wins 11 = .ok (.iconst 1, 1) := by decide +kernel
theorem dX12_wins_12 : decode cX12_wins 12 = .ok (.isub, 1) := by decide +kernel
theorem dX12_wins_13 : decode cX12_wins 13 = .ok (.invokestatic 196, 3) := by decide +kernel
theorem dX12_wins_16 : decode cX12_wins 16 = .ok (.ifCond .eq 10, 3) := by decide +kernel
theorem dX12_wins_19 : decode cX12_wins 19 = .ok (.aload_n 0, 1) := by decide +kernel
theorem dX12_wins_20 : decode cX12_wins 20 = .ok (.invokevirtual 405, 3) := by decide +kernel
theorem dX12_wins_23 : decode cX12_wins 23 = .ok (.ifCond .ne 5, 3) := by decide +kernel
theorem dX12_wins_26 : decode cX12_wins 26 = .ok (.iconst (-1), 1) := by decide +kernel
theorem dX12_wins_27 : decode cX12_wins 27 = .ok (.ireturn, 1) := by decide +kernel
theorem dX12_wins_28 : decode cX12_wins 28 = .ok (.iconst 0, 1) := by decide +kernel
theorem dX12_wins_29 : decode cX12_wins 29 = .ok (.istore_n 2, 1) := by decide +kernel
theorem dX12_wins_30 : decode cX12_wins 30 = .ok (.iload_n 2, 1) := by decide +kernel
theorem dX12_wins_31 : decode cX12_wins 31 = .ok (.aload_n 0, 1) := by decide +kernel
theorem dX12_wins_32 : decode cX12_wins 32 = .ok (.getfield 177, 3) := by decide +kernel
theorem dX12_wins_35 : decode cX12_wins 35 = .ok (.if_icmp .ge 29, 3) := by decide +kernel
theorem dX12_wins_38 : decode cX12_wins 38 = .ok (.aload_n 0, 1) := by decide +kernel
theorem dX12_wins_39 : decode cX12_wins 39 = .ok (.getfield 16, 3) := by decide +kernel
theorem dX12_wins_42 : decode cX12_wins 42 = .ok (.iload_n 2, 1) := by decide +kernel
theorem dX12_wins_43 : decode cX12_wins 43 = .ok (.iaload, 1) := by decide +kernel
theorem dX12_wins_44 : decode cX12_wins 44 = .ok (.iload_n 1, 1) := by decide +kernel
theorem dX12_wins_45 : decode cX12_wins 45 = .ok (.if_icmp .ne 13, 3) := by decide +kernel
theorem dX12_wins_48 : decode cX12_wins 48 = .ok (.aload_n 0, 1) := by decide +kernel
theorem dX12_wins_49 : decode cX12_wins 49 = .ok (.iload_n 2, 1) := by decide +kernel
theorem dX12_wins_50 : decode cX12_wins 50 = .ok (.invokevirtual 408, 3) := by decide +kernel
theorem dX12_wins_53 : decode cX12_wins 53 = .ok (.ifCond .eq 5, 3) := by decide +kernel
theorem dX12_wins_56 : decode cX12_wins 56 = .ok (.iload_n 2, 1) := by decide +kernel
theorem dX12_wins_57 : decode cX12_wins 57 = .ok (.ireturn, 1) := by decide +kernel
theorem dX12_wins_58 : decode cX12_wins 58 = .ok (.iinc 2 1, 3) := by decide +kernel
theorem dX12_wins_61 : decode cX12_wins 61 = .ok (.goto (-31), 3) := by decide +kernel
theorem dX12_wins_64 : decode cX12_wins 64 = .ok (.iconst (-1), 1) := by decide +kernel
theorem dX12_wins_65 : decode cX12_wins 65 = .ok (.ireturn, 1) := by decide +kernel
theorem dX12_cost_0 : decode cX12_cost 0 = .ok (.aload_n 0, 1) := by decide +kernel
theorem dX12_cost_1 : decode cX12_cost 1 = .ok (.iconst 0, 1) := by decide +kernel
theorem dX12_cost_2 : decode cX12_cost 2 = .ok (.putfield 180, 3) := by decide +kernel
theorem dX12_cost_5 : decode cX12_cost 5 = .ok (.aload_n 0, 1) := by decide +kernel
theorem dX12_cost_6 : decode cX12_cost 6 = .ok (.iload_n 1, 1) := by decide +kernel
theorem dX12_cost_7 : decode cX12_cost 7 = .ok (.invokevirtual 337, 3) := by decide +kernel
theorem dX12_cost_10 : decode cX12_cost 10 = .ok (.ifCond .eq 13, 3) := by decide +kernel
theorem dX12_cost_13 : decode cX12_cost 13 = .ok (.iload_n 2, 1) := by decide +kernel
theorem dX12_cost_14 : decode cX12_cost 14 = .ok (.iconst 1, 1) := by decide +kernel
theorem dX12_cost_15 : decode cX12_cost 15 = .ok (.bipush 50, 2) := by decide +kernel
theorem dX12_cost_17 : decode cX12_cost 17 = .ok (.invokestatic 196, 3) := by decide +kernel
theorem dX12_cost_20 : decode cX12_cost 20 = .ok (.ifCond .ne 5, 3) := by decide +kernel
theorem dX12_cost_23 : decode cX12_cost 23 = .ok (.iconst 0, 1) := by decide +kernel
theorem dX12_cost_24 : decode cX12_cost 24 = .ok (.ireturn, 1) := by decide +kernel
theorem dX12_cost_25 : decode cX12_cost 25 = .ok (.aload_n 0, 1) := by decide +kernel
theorem dX12_cost_26 : decode cX12_cost 26 = .ok (.getfield 69, 3) := by decide +kernel
theorem dX12_cost_29 : decode cX12_cost 29 = .ok (.iload_n 1, 1) := by decide +kernel
theorem dX12_cost_30 : decode cX12_cost 30 = .ok (.iload_n 2, 1) := by decide +kernel
theorem dX12_cost_31 : decode cX12_cost 31 = .ok (.iastore, 1) := by decide +kernel
theorem dX12_cost_32 : decode cX12_cost 32 = .ok (.iconst 1, 1) := by decide +kernel
theorem dX12_cost_33 : decode cX12_cost 33 = .ok (.ireturn, 1) := by decide +kernel
theorem dX12_layGains_0 : decode cX12_layGains 0 = .ok (.iconst 0, 1) := by decide +kernel
theorem dX12_layGains_1 : decode cX12_layGains 1 = .ok (.istore_n 2, 1) := by decide +kernel
theorem dX12_layGains_2 : decode cX12_layGains 2 = .ok (.iload_n 2, 1) := by decide +kernel
theorem dX12_layGains_3 : decode cX12_layGains 3 = .ok (.aload_n 0, 1) := by decide +kernel
theorem dX12_layGains_4 : decode cX12_layGains 4 = .ok (.getfield 331, 3) := by decide +kernel
theorem dX12_layGains_7 : decode cX12_layGains 7 = .ok (.if_icmp .ge 100, 3) := by decide +kernel
theorem dX12_layGains_10 : decode cX12_layGains 10 = .ok (.aload_n 0, 1) := by decide +kernel
theorem dX12_layGains_11 : decode cX12_layGains 11 = .ok (.iload_n 2, 1) := by decide +kernel
theorem dX12_layGains_12 : decode cX12_layGains 12 = .ok (.invokevirtual 375, 3) := by decide +kernel
theorem dX12_layGains_15 : decode cX12_layGains 15 = .ok (.istore_n 3, 1) := by decide +kernel
theorem dX12_layGains_16 : decode cX12_layGains 16 = .ok (.iconst 0, 1) := by decide +kernel
theorem dX12_layGains_17 : decode cX12_layGains 17 = .ok (.istore 4, 2) := by decide +kernel
theorem dX12_layGains_19 : decode cX12_layGains 19 = .ok (.iload 4, 2) := by decide +kernel
theorem dX12_layGains_21 : decode cX12_layGains 21 = .ok (.aload_n 0, 1) := by decide +kernel
theorem dX12_layGains_22 : decode cX12_layGains 22 = .ok (.getfield 177, 3) := by decide +kernel
theorem dX12_layGains_25 : decode cX12_layGains 25 = .ok (.if_icmp .ge 76, 3) := by decide +kernel
theorem dX12_layGains_28 : decode cX12_layGains 28 = .ok (.iload 4, 2) := by decide +kernel
theorem dX12_layGains_30 : decode cX12_layGains 30 = .ok (.iload_n 1, 1) := by decide +kernel
theorem dX12_layGains_31 : decode cX12_layGains 31 = .ok (.if_icmp .eq 64, 3) := by decide +kernel
theorem dX12_layGains_34 : decode cX12_layGains 34 = .ok (.aload_n 0, 1) := by decide +kernel
theorem dX12_layGains_35 : decode cX12_layGains 35 = .ok (.getfield 16, 3) := by decide +kernel
theorem dX12_layGains_38 : decode cX12_layGains 38 = .ok (.iload 4, 2) := by decide +kernel
theorem dX12_layGains_40 : decode cX12_layGains 40 = .ok (.iaload, 1) := by decide +kernel
theorem dX12_layGains_41 : decode cX12_layGains 41 = .ok (.aload_n 0, 1) := by decide +kernel
theorem dX12_layGains_42 : decode cX12_layGains 42 = .ok (.getfield 16, 3) := by decide +kernel
theorem dX12_layGains_45 : decode cX12_layGains 45 = .ok (.iload_n 1, 1) := by decide +kernel
theorem dX12_layGains_46 : decode cX12_layGains 46 = .ok (.iaload, 1) := by decide +kernel
theorem dX12_layGains_47 : decode cX12_layGains 47 = .ok (.if_icmp .eq 6, 3) := by decide +kernel
theorem dX12_layGains_50 : decode cX12_layGains 50 = .ok (.goto 45, 3) := by decide +kernel
theorem dX12_layGains_53 : decode cX12_layGains 53 = .ok (.aload_n 0, 1) := by decide +kernel
theorem dX12_layGains_54 : decode cX12_layGains 54 = .ok (.getfield 99, 3) := by decide +kernel
theorem dX12_layGains_57 : decode cX12_layGains 57 = .ok (.bipush 16, 2) := by decide +kernel
theorem dX12_layGains_59 : decode cX12_layGains 59 = .ok (.iload_n 2, 1) := by decide +kernel
theorem dX12_layGains_60 : decode cX12_layGains 60 = .ok (.imul, 1) := by decide +kernel
theorem dX12_layGains_61 : decode cX12_layGains 61 = .ok (.iload 4, 2) := by decide +kernel
theorem dX12_layGains_63 : decode cX12_layGains 63 = .ok (.iadd, 1) := by decide +kernel
theorem dX12_layGains_64 : decode cX12_layGains 64 = .ok (.aload_n 0, 1) := by decide +kernel
theorem dX12_layGains_65 : decode cX12_layGains 65 = .ok (.iload_n 2, 1) := by decide +kernel
theorem dX12_layGains_66 : decode cX12_layGains 66 = .ok (.iload_n 1, 1) := by decide +kernel
theorem dX12_layGains_67 : decode cX12_layGains 67 = .ok (.iload 4, 2) := by decide +kernel
theorem dX12_layGains_69 : decode cX12_layGains 69 = .ok (.iconst (-1), 1) := by decide +kernel
theorem dX12_layGains_70 : decode cX12_layGains 70 = .ok (.invokevirtual 395, 3) := by decide +kernel
theorem dX12_layGains_73 : decode cX12_layGains 73 = .ok (.iastore, 1) := by decide +kernel
theorem dX12_layGains_74 : decode cX12_layGains 74 = .ok (.aload_n 0, 1) := by decide +kernel
theorem dX12_layGains_75 : decode cX12_layGains 75 = .ok (.getfield 102, 3) := by decide +kernel
theorem dX12_layGains_78 : decode cX12_layGains 78 = .ok (.bipush 16, 2) := by decide +kernel
theorem dX12_layGains_80 : decode cX12_layGains 80 = .ok (.iload_n 2, 1) := by decide +kernel
theorem dX12_layGains_81 : decode cX12_layGains 81 = .ok (.imul, 1) := by decide +kernel
theorem dX12_layGains_82 : decode cX12_layGains 82 = .ok (.iload 4, 2) := by decide +kernel
theorem dX12_layGains_84 : decode cX12_layGains 84 = .ok (.iadd, 1) := by decide +kernel
theorem dX12_layGains_85 : decode cX12_layGains 85 = .ok (.aload_n 0, 1) := by decide +kernel
theorem dX12_layGains_86 : decode cX12_layGains 86 = .ok (.iload_n 2, 1) := by decide +kernel
theorem dX12_layGains_87 : decode cX12_layGains 87 = .ok (.iload_n 1, 1) := by decide +kernel
theorem dX12_layGains_88 : decode cX12_layGains 88 = .ok (.iload 4, 2) := by decide +kernel
theorem dX12_layGains_90 : decode cX12_layGains 90 = .ok (.iload_n 3, 1) := by decide +kernel
theorem dX12_layGains_91 : decode cX12_layGains 91 = .ok (.invokevirtual 395, 3) := by decide +kernel
theorem dX12_layGains_94 : decode cX12_layGains 94 = .ok (.iastore, 1) := by decide +kernel
theorem dX12_layGains_95 : decode cX12_layGains 95 = .ok (.iinc 4 1, 3) := by decide +kernel
theorem dX12_layGains_98 : decode cX12_layGains 98 = .ok (.goto (-79), 3) := by decide +kernel
theorem dX12_layGains_101 : decode cX12_layGains 101 = .ok (.iinc 2 1, 3) := by decide +kernel
theorem dX12_layGains_104 : decode cX12_layGains 104 = .ok (.goto (-102), 3) := by decide +kernel
theorem dX12_layGains_107 : decode cX12_layGains 107 = .ok (.return_, 1) := by decide +kernel
theorem dX12_winsWith_0 : decode cX12_winsWith 0 = .ok (.iconst 0, 1) := by decide +kernel
theorem dX12_winsWith_1 : decode cX12_winsWith 1 = .ok (.istore_n 3, 1) := by decide +kernel
theorem dX12_winsWith_2 : decode cX12_winsWith 2 = .ok (.iload_n 3, 1) := by decide +kernel
theorem dX12_winsWith_3 : decode cX12_winsWith 3 = .ok (.aload_n 0, 1) := by decide +kernel
theorem dX12_winsWith_4 : decode cX12_winsWith 4 = .ok (.getfield 177, 3) := by decide +kernel
theorem dX12_winsWith_7 : decode cX12_winsWith 7 = .ok (.if_icmp .ge 102, 3) := by decide +kernel
theorem dX12_winsWith_10 : decode cX12_winsWith 10 = .ok (.iload_n 3, 1) := by decide +kernel
theorem dX12_winsWith_11 : decode cX12_winsWith 11 = .ok (.iload_n 1, 1) := by decide +kernel
theorem dX12_winsWith_12 : decode cX12_winsWith 12 = .ok (.if_icmp .eq 91, 3) := by decide +kernel
theorem dX12_winsWith_15 : decode cX12_winsWith 15 = .ok (.aload_n 0, 1) := by decide +kernel
theorem dX12_winsWith_16 : decode cX12_winsWith 16 = .ok (.getfield 16, 3) := by decide +kernel
theorem dX12_winsWith_19 : decode cX12_winsWith 19 = .ok (.iload_n 3, 1) := by decide +kernel
theorem dX12_winsWith_20 : decode cX12_winsWith 20 = .ok (.iaload, 1) := by decide +kernel
theorem dX12_winsWith_21 : decode cX12_winsWith 21 = .ok (.aload_n 0, 1) := by decide +kernel
theorem dX12_winsWith_22 : decode cX12_winsWith 22 = .ok (.getfield 16, 3) := by decide +kernel
theorem dX12_winsWith_25 : decode cX12_winsWith 25 = .ok (.iload_n 1, 1) := by decide +kernel
theorem dX12_winsWith_26 : decode cX12_winsWith 26 = .ok (.iaload, 1) := by decide +kernel
theorem dX12_winsWith_27 : decode cX12_winsWith 27 = .ok (.if_icmp .eq 6, 3) := by decide +kernel
theorem dX12_winsWith_30 : decode cX12_winsWith 30 = .ok (.goto 73, 3) := by decide +kernel
theorem dX12_winsWith_33 : decode cX12_winsWith 33 = .ok (.iconst 0, 1) := by decide +kernel
theorem dX12_winsWith_34 : decode cX12_winsWith 34 = .ok (.istore 4, 2) := by decide +kernel
theorem dX12_winsWith_36 : decode cX12_winsWith 36 = .ok (.iconst 0, 1) := by decide +kernel
theorem dX12_winsWith_37 : decode cX12_winsWith 37 = .ok (.istore 5, 2) := by decide +kernel
theorem dX12_winsWith_39 : decode cX12_winsWith 39 = .ok (.iload 5, 2) := by decide +kernel
theorem dX12_winsWith_41 : decode cX12_winsWith 41 = .ok (.aload_n 0, 1) := by decide +kernel
theorem dX12_winsWith_42 : decode cX12_winsWith 42 = .ok (.getfield 331, 3) := by decide +kernel
theorem dX12_winsWith_45 : decode cX12_winsWith 45 = .ok (.if_icmp .ge 50, 3) := by decide +kernel
theorem dX12_winsWith_48 : decode cX12_winsWith 48 = .ok (.iload 4, 2) := by decide +kernel
theorem dX12_winsWith_50 : decode cX12_winsWith 50 = .ok (.iload_n 2, 1) := by decide +kernel
theorem dX12_winsWith_51 : decode cX12_winsWith 51 = .ok (.iload 5, 2) := by decide +kernel
theorem dX12_winsWith_53 : decode cX12_winsWith 53 = .ok (.invokestatic 200, 3) := by decide +kernel
theorem dX12_winsWith_56 : decode cX12_winsWith 56 = .ok (.ifCond .eq 18, 3) := by decide +kernel
theorem dX12_winsWith_59 : decode cX12_winsWith 59 = .ok (.aload_n 0, 1) := by decide +kernel
theorem dX12_winsWith_60 : decode cX12_winsWith 60 = .ok (.getfield 102, 3) := by decide +kernel
theorem dX12_winsWith_63 : decode cX12_winsWith 63 = .ok (.bipush 16, 2) := by decide +kernel
theorem dX12_winsWith_65 : decode cX12_winsWith 65 = .ok (.iload 5, 2) := by decide +kernel
theorem dX12_winsWith_67 : decode cX12_winsWith 67 = .ok (.imul, 1) := by decide +kernel
theorem dX12_winsWith_68 : decode cX12_winsWith 68 = .ok (.iload_n 3, 1) := by decide +kernel
theorem dX12_winsWith_69 : decode cX12_winsWith 69 = .ok (.iadd, 1) := by decide +kernel
theorem dX12_winsWith_70 : decode cX12_winsWith 70 = .ok (.iaload, 1) := by decide +kernel
theorem dX12_winsWith_71 : decode cX12_winsWith 71 = .ok (.goto 15, 3) := by decide +kernel
theorem dX12_winsWith_74 : decode cX12_winsWith 74 = .ok (.aload_n 0, 1) := by decide +kernel
theorem dX12_winsWith_75 : decode cX12_winsWith 75 = .ok (.getfield 99, 3) := by decide +kernel
theorem dX12_winsWith_78 : decode cX12_winsWith 78 = .ok (.bipush 16, 2) := by decide +kernel
theorem dX12_winsWith_80 : decode cX12_winsWith 80 = .ok (.iload 5, 2) := by decide +kernel
theorem dX12_winsWith_82 : decode cX12_winsWith 82 = .ok (.imul, 1) := by decide +kernel
theorem dX12_winsWith_83 : decode cX12_winsWith 83 = .ok (.iload_n 3, 1) := by decide +kernel
theorem dX12_winsWith_84 : decode cX12_winsWith 84 = .ok (.iadd, 1) := by decide +kernel
theorem dX12_winsWith_85 : decode cX12_winsWith 85 = .ok (.iaload, 1) := by decide +kernel
theorem dX12_winsWith_86 : decode cX12_winsWith 86 = .ok (.iadd, 1) := by decide +kernel
theorem dX12_winsWith_87 : decode cX12_winsWith 87 = .ok (.istore 4, 2) := by decide +kernel
theorem dX12_winsWith_89 : decode cX12_winsWith 89 = .ok (.iinc 5 1, 3) := by decide +kernel
theorem dX12_winsWith_92 : decode cX12_winsWith 92 = .ok (.goto (-53), 3) := by decide +kernel
theorem dX12_winsWith_95 : decode cX12_winsWith 95 = .ok (.iload 4, 2) := by decide +kernel
theorem dX12_winsWith_97 : decode cX12_winsWith 97 = .ok (.iconst 1, 1) := by decide +kernel
theorem dX12_winsWith_98 : decode cX12_winsWith 98 = .ok (.if_icmp .ge 5, 3) := by decide +kernel
theorem dX12_winsWith_101 : decode cX12_winsWith 101 = .ok (.iconst 0, 1) := by decide +kernel
theorem dX12_winsWith_102 : decode cX12_winsWith 102 = .ok (.ireturn, 1) := by decide +kernel
theorem dX12_winsWith_103 : decode cX12_winsWith 103 = .ok (.iinc 3 1, 3) := by decide +kernel
theorem dX12_winsWith_106 : decode cX12_winsWith 106 = .ok (.goto (-104), 3) := by decide +kernel
theorem dX12_winsWith_109 : decode cX12_winsWith 109 = .ok (.iconst 1, 1) := by decide +kernel
theorem dX12_winsWith_110 : decode cX12_winsWith 110 = .ok (.ireturn, 1) := by decide +kernel
theorem dX12_costOf_0 : decode cX12_costOf 0 = .ok (.iconst 0, 1) := by decide +kernel
theorem dX12_costOf_1 : decode cX12_costOf 1 = .ok (.istore_n 2, 1) := by decide +kernel
theorem dX12_costOf_2 : decode cX12_costOf 2 = .ok (.iconst 0, 1) := by decide +kernel
theorem dX12_costOf_3 : decode cX12_costOf 3 = .ok (.istore_n 3, 1) := by decide +kernel
theorem dX12_costOf_4 : decode cX12_costOf 4 = .ok (.iload_n 3, 1) := by decide +kernel
theorem dX12_costOf_5 : decode cX12_costOf 5 = .ok (.aload_n 0, 1) := by decide +kernel
theorem dX12_costOf_6 : decode cX12_costOf 6 = .ok (.getfield 331, 3) := by decide +kernel
theorem dX12_costOf_9 : decode cX12_costOf 9 = .ok (.if_icmp .ge 30, 3) := by decide +kernel
theorem dX12_costOf_12 : decode cX12_costOf 12 = .ok (.iload_n 2, 1) := by decide +kernel
theorem dX12_costOf_13 : decode cX12_costOf 13 = .ok (.iload_n 1, 1) := by decide +kernel
theorem dX12_costOf_14 : decode cX12_costOf 14 = .ok (.iload_n 3, 1) := by decide +kernel
theorem dX12_costOf_15 : decode cX12_costOf 15 = .ok (.invokestatic 200, 3) := by decide +kernel
theorem dX12_costOf_18 : decode cX12_costOf 18 = .ok (.ifCond .eq 12, 3) := by decide +kernel
theorem dX12_costOf_21 : decode cX12_costOf 21 = .ok (.aload_n 0, 1) := by decide +kernel
theorem dX12_costOf_22 : decode cX12_costOf 22 = .ok (.getfield 69, 3) := by decide +kernel
theorem dX12_costOf_25 : decode cX12_costOf 25 = .ok (.iload_n 3, 1) := by decide +kernel
theorem dX12_costOf_26 : decode cX12_costOf 26 = .ok (.iaload, 1) := by decide +kernel
theorem dX12_costOf_27 : decode cX12_costOf 27 = .ok (.goto 4, 3) := by decide +kernel
theorem dX12_costOf_30 : decode cX12_costOf 30 = .ok (.iconst 0, 1) := by decide +kernel
theorem dX12_costOf_31 : decode cX12_costOf 31 = .ok (.iadd, 1) := by decide +kernel
theorem dX12_costOf_32 : decode cX12_costOf 32 = .ok (.istore_n 2, 1) := by decide +kernel
theorem dX12_costOf_33 : decode cX12_costOf 33 = .ok (.iinc 3 1, 3) := by decide +kernel
theorem dX12_costOf_36 : decode cX12_costOf 36 = .ok (.goto (-32), 3) := by decide +kernel
theorem dX12_costOf_39 : decode cX12_costOf 39 = .ok (.iload_n 2, 1) := by decide +kernel
theorem dX12_costOf_40 : decode cX12_costOf 40 = .ok (.ireturn, 1) := by decide +kernel
theorem dX12_till_0 : decode cX12_till 0 = .ok (.aload_n 0, 1) := by decide +kernel
theorem dX12_till_1 : decode cX12_till 1 = .ok (.iconst 0, 1) := by decide +kernel
theorem dX12_till_2 : decode cX12_till 2 = .ok (.putfield 180, 3) := by decide +kernel
theorem dX12_till_5 : decode cX12_till 5 = .ok (.aload_n 0, 1) := by decide +kernel
theorem dX12_till_6 : decode cX12_till 6 = .ok (.iload_n 1, 1) := by decide +kernel
theorem dX12_till_7 : decode cX12_till 7 = .ok (.invokevirtual 384, 3) := by decide +kernel
theorem dX12_till_10 : decode cX12_till 10 = .ok (.ifCond .eq 19, 3) := by decide +kernel
theorem dX12_till_13 : decode cX12_till 13 = .ok (.iload_n 2, 1) := by decide +kernel
theorem dX12_till_14 : decode cX12_till 14 = .ok (.iconst 0, 1) := by decide +kernel
theorem dX12_till_15 : decode cX12_till 15 = .ok (.iconst 1, 1) := by decide +kernel
theorem dX12_till_16 : decode cX12_till 16 = .ok (.invokestatic 196, 3) := by decide +kernel
theorem dX12_till_19 : decode cX12_till 19 = .ok (.ifCond .eq 10, 3) := by decide +kernel
theorem dX12_till_22 : decode cX12_till 22 = .ok (.aload_n 0, 1) := by decide +kernel
theorem dX12_till_23 : decode cX12_till 23 = .ok (.invokevirtual 405, 3) := by decide +kernel
theorem dX12_till_26 : decode cX12_till 26 = .ok (.ifCond .ne 5, 3) := by decide +kernel
theorem dX12_till_29 : decode cX12_till 29 = .ok (.iconst (-1), 1) := by decide +kernel
theorem dX12_till_30 : decode cX12_till 30 = .ok (.ireturn, 1) := by decide +kernel
theorem dX12_till_31 : decode cX12_till 31 = .ok (.aload_n 0, 1) := by decide +kernel
theorem dX12_till_32 : decode cX12_till 32 = .ok (.iload_n 1, 1) := by decide +kernel
theorem dX12_till_33 : decode cX12_till 33 = .ok (.invokevirtual 411, 3) := by decide +kernel
theorem dX12_till_36 : decode cX12_till 36 = .ok (.iconst 0, 1) := by decide +kernel
theorem dX12_till_37 : decode cX12_till 37 = .ok (.istore_n 3, 1) := by decide +kernel
theorem dX12_till_38 : decode cX12_till 38 = .ok (.iconst 0, 1) := by decide +kernel
theorem dX12_till_39 : decode cX12_till 39 = .ok (.istore 4, 2) := by decide +kernel
theorem dX12_till_41 : decode cX12_till 41 = .ok (.iload 4, 2) := by decide +kernel
theorem dX12_till_43 : decode cX12_till 43 = .ok (.aload_n 0, 1) := by decide +kernel
theorem dX12_till_44 : decode cX12_till 44 = .ok (.getfield 331, 3) := by decide +kernel
theorem dX12_till_47 : decode cX12_till 47 = .ok (.if_icmp .ge 31, 3) := by decide +kernel
theorem dX12_till_50 : decode cX12_till 50 = .ok (.iload_n 3, 1) := by decide +kernel
theorem dX12_till_51 : decode cX12_till 51 = .ok (.aload_n 0, 1) := by decide +kernel
theorem dX12_till_52 : decode cX12_till 52 = .ok (.getfield 66, 3) := by decide +kernel
theorem dX12_till_55 : decode cX12_till 55 = .ok (.iload 4, 2) := by decide +kernel
theorem dX12_till_57 : decode cX12_till 57 = .ok (.iaload, 1) := by decide +kernel
theorem dX12_till_58 : decode cX12_till 58 = .ok (.iconst (-1), 1) := by decide +kernel
theorem dX12_till_59 : decode cX12_till 59 = .ok (.if_icmp .ne 10, 3) := by decide +kernel
theorem dX12_till_62 : decode cX12_till 62 = .ok (.iconst 1, 1) := by decide +kernel
theorem dX12_till_63 : decode cX12_till 63 = .ok (.iload 4, 2) := by decide +kernel
theorem dX12_till_65 : decode cX12_till 65 = .ok (.ishl, 1) := by decide +kernel
theorem dX12_till_66 : decode cX12_till 66 = .ok (.goto 4, 3) := by decide +kernel
theorem dX12_till_69 : decode cX12_till 69 = .ok (.iconst 0, 1) := by decide +kernel
theorem dX12_till_70 : decode cX12_till 70 = .ok (.ior, 1) := by decide +kernel
theorem dX12_till_71 : decode cX12_till 71 = .ok (.istore_n 3, 1) := by decide +kernel
theorem dX12_till_72 : decode cX12_till 72 = .ok (.iinc 4 1, 3) := by decide +kernel
theorem dX12_till_75 : decode cX12_till 75 = .ok (.goto (-34), 3) := by decide +kernel
theorem dX12_till_78 : decode cX12_till 78 = .ok (.iconst (-1), 1) := by decide +kernel
theorem dX12_till_79 : decode cX12_till 79 = .ok (.istore 4, 2) := by decide +kernel
theorem dX12_till_81 : decode cX12_till 81 = .ok (.iconst 0, 1) := by decide +kernel
theorem dX12_till_82 : decode cX12_till 82 = .ok (.istore 5, 2) := by decide +kernel
theorem dX12_till_84 : decode cX12_till 84 = .ok (.iload 5, 2) := by decide +kernel
theorem dX12_till_86 : decode cX12_till 86 = .ok (.iconst 1, 1) := by decide +kernel
theorem dX12_till_87 : decode cX12_till 87 = .ok (.aload_n 0, 1) := by decide +kernel
theorem dX12_till_88 : decode cX12_till 88 = .ok (.getfield 331, 3) := by decide +kernel
theorem dX12_till_91 : decode cX12_till 91 = .ok (.ishl, 1) := by decide +kernel
theorem dX12_till_92 : decode cX12_till 92 = .ok (.if_icmp .ge 80, 3) := by decide +kernel
theorem dX12_till_95 : decode cX12_till 95 = .ok (.iload 5, 2) := by decide +kernel
theorem dX12_till_97 : decode cX12_till 97 = .ok (.iload_n 3, 1) := by decide +kernel
theorem dX12_till_98 : decode cX12_till 98 = .ok (.iconst (-1), 1) := by decide +kernel
theorem dX12_till_99 : decode cX12_till 99 = .ok (.ixor, 1) := by decide +kernel
theorem dX12_till_100 : decode cX12_till 100 = .ok (.iand, 1) := by decide +kernel
theorem dX12_till_101 : decode cX12_till 101 = .ok (.ifCond .ne 65, 3) := by decide +kernel
theorem dX12_till_104 : decode cX12_till 104 = .ok (.aload_n 0, 1) := by decide +kernel
theorem dX12_till_105 : decode cX12_till 105 = .ok (.iload_n 1, 1) := by decide +kernel
theorem dX12_till_106 : decode cX12_till 106 = .ok (.iload 5, 2) := by decide +kernel
theorem dX12_till_108 : decode cX12_till 108 = .ok (.invokevirtual 414, 3) := by decide +kernel
theorem dX12_till_111 : decode cX12_till 111 = .ok (.ifCond .ne 6, 3) := by decide +kernel
theorem dX12_till_114 : decode cX12_till 114 = .ok (.goto 52, 3) := by decide +kernel
theorem dX12_till_117 : decode cX12_till 117 = .ok (.iload 4, 2) := by decide +kernel
theorem dX12_till_119 : decode cX12_till 119 = .ok (.iconst (-1), 1) := by decide +kernel
theorem dX12_till_120 : decode cX12_till 120 = .ok (.if_icmp .ne 7, 3) := by decide +kernel
theorem dX12_till_123 : decode cX12_till 123 = .ok (.iconst (-1), 1) := by decide +kernel
theorem dX12_till_124 : decode cX12_till 124 = .ok (.goto 16, 3) := by decide +kernel
theorem dX12_till_127 : decode cX12_till 127 = .ok (.aload_n 0, 1) := by decide +kernel
theorem dX12_till_128 : decode cX12_till 128 = .ok (.iload 5, 2) := by decide +kernel
theorem dX12_till_130 : decode cX12_till 130 = .ok (.invokevirtual 417, 3) := by decide +kernel
theorem dX12_till_133 : decode cX12_till 133 = .ok (.aload_n 0, 1) := by decide +kernel
theorem dX12_till_134 : decode cX12_till 134 = .ok (.iload 4, 2) := by decide +kernel
theorem dX12_till_136 : decode cX12_till 136 = .ok (.invokevirtual 417, 3) := by decide +kernel
theorem dX12_till_139 : decode cX12_till 139 = .ok (.isub, 1) := by decide +kernel
theorem dX12_till_140 : decode cX12_till 140 = .ok (.istore 6, 2) := by decide +kernel
theorem dX12_till_142 : decode cX12_till 142 = .ok (.iload 6, 2) := by decide +kernel
theorem dX12_till_144 : decode cX12_till 144 = .ok (.ifCond .lt 18, 3) := by decide +kernel
theorem dX12_till_147 : decode cX12_till 147 = .ok (.iload 6, 2) := by decide +kernel
theorem dX12_till_149 : decode cX12_till 149 = .ok (.ifCond .ne 17, 3) := by decide +kernel
theorem dX12_till_152 : decode cX12_till 152 = .ok (.iload 5, 2) := by decide +kernel
theorem dX12_till_154 : decode cX12_till 154 = .ok (.iload 4, 2) := by decide +kernel
theorem dX12_till_156 : decode cX12_till 156 = .ok (.invokestatic 213, 3) := by decide +kernel
theorem dX12_till_159 : decode cX12_till 159 = .ok (.ifCond .eq 7, 3) := by decide +kernel
theorem dX12_till_162 : decode cX12_till 162 = .ok (.iload 5, 2) := by decide +kernel
theorem dX12_till_164 : decode cX12_till 164 = .ok (.istore 4, 2) := by decide +kernel
theorem dX12_till_166 : decode cX12_till 166 = .ok (.iinc 5 1, 3) := by decide +kernel
theorem dX12_till_169 : decode cX12_till 169 = .ok (.goto (-85), 3) := by decide +kernel
theorem dX12_till_172 : decode cX12_till 172 = .ok (.iload 4, 2) := by decide +kernel
theorem dX12_till_174 : decode cX12_till 174 = .ok (.iconst (-1), 1) := by decide +kernel
theorem dX12_till_175 : decode cX12_till 175 = .ok (.if_icmp .ne 7, 3) := by decide +kernel
theorem dX12_till_178 : decode cX12_till 178 = .ok (.iconst (-1), 1) := by decide +kernel
theorem dX12_till_179 : decode cX12_till 179 = .ok (.goto 18, 3) := by decide +kernel
theorem dX12_till_182 : decode cX12_till 182 = .ok (.iload_n 2, 1) := by decide +kernel
theorem dX12_till_183 : decode cX12_till 183 = .ok (.ifCond .ne 8, 3) := by decide +kernel
theorem dX12_till_186 : decode cX12_till 186 = .ok (.iload 4, 2) := by decide +kernel
theorem dX12_till_188 : decode cX12_till 188 = .ok (.goto 9, 3) := by decide +kernel
theorem dX12_till_191 : decode cX12_till 191 = .ok (.aload_n 0, 1) := by decide +kernel
theorem dX12_till_192 : decode cX12_till 192 = .ok (.iload 4, 2) := by decide +kernel
theorem dX12_till_194 : decode cX12_till 194 = .ok (.invokevirtual 417, 3) := by decide +kernel
theorem dX12_till_197 : decode cX12_till 197 = .ok (.ireturn, 1) := by decide +kernel
theorem dX12_test_0 : decode cX12_test 0 = .ok (.aload_n 0, 1) := by decide +kernel
theorem dX12_test_1 : decode cX12_test 1 = .ok (.iconst 0, 1) := by decide +kernel
theorem dX12_test_2 : decode cX12_test 2 = .ok (.putfield 180, 3) := by decide +kernel
theorem dX12_test_5 : decode cX12_test 5 = .ok (.aload_n 0, 1) := by decide +kernel
theorem dX12_test_6 : decode cX12_test 6 = .ok (.getfield 420, 3) := by decide +kernel
theorem dX12_test_9 : decode cX12_test 9 = .ok (.bipush 8, 2) := by decide +kernel
theorem dX12_test_11 : decode cX12_test 11 = .ok (.if_icmp .eq 22, 3) := by decide +kernel
theorem dX12_test_14 : decode cX12_test 14 = .ok (.aload_n 0, 1) := by decide +kernel
theorem dX12_test_15 : decode cX12_test 15 = .ok (.iload_n 1, 1) := by decide +kernel
theorem dX12_test_16 : decode cX12_test 16 = .ok (.invokevirtual 192, 3) := by decide +kernel
theorem dX12_test_19 : decode cX12_test 19 = .ok (.ifCond .eq 14, 3) := by decide +kernel
theorem dX12_test_22 : decode cX12_test 22 = .ok (.iload_n 2, 1) := by decide +kernel
theorem dX12_test_23 : decode cX12_test 23 = .ok (.iconst 0, 1) := by decide +kernel
theorem dX12_test_24 : decode cX12_test 24 = .ok (.sipush 200, 3) := by decide +kernel
theorem dX12_test_27 : decode cX12_test 27 = .ok (.invokestatic 196, 3) := by decide +kernel
theorem dX12_test_30 : decode cX12_test 30 = .ok (.ifCond .ne 5, 3) := by decide +kernel
theorem dX12_test_33 : decode cX12_test 33 = .ok (.iconst (-1), 1) := by decide +kernel
theorem dX12_test_34 : decode cX12_test 34 = .ok (.ireturn, 1) := by decide +kernel
theorem dX12_test_35 : decode cX12_test 35 = .ok (.aload_n 0, 1) := by decide +kernel
theorem dX12_test_36 : decode cX12_test 36 = .ok (.getfield 105, 3) := by decide +kernel
theorem dX12_test_39 : decode cX12_test 39 = .ok (.aload_n 0, 1) := by decide +kernel
theorem dX12_test_40 : decode cX12_test 40 = .ok (.getfield 420, 3) := by decide +kernel
theorem dX12_test_43 : decode cX12_test 43 = .ok (.iload_n 1, 1) := by decide +kernel
theorem dX12_test_44 : decode cX12_test 44 = .ok (.iastore, 1) := by decide +kernel
theorem dX12_test_45 : decode cX12_test 45 = .ok (.aload_n 0, 1) := by decide +kernel
theorem dX12_test_46 : decode cX12_test 46 = .ok (.getfield 108, 3) := by decide +kernel
theorem dX12_test_49 : decode cX12_test 49 = .ok (.aload_n 0, 1) := by decide +kernel
theorem dX12_test_50 : decode cX12_test 50 = .ok (.getfield 420, 3) := by decide +kernel
theorem dX12_test_53 : decode cX12_test 53 = .ok (.iload_n 2, 1) := by decide +kernel
theorem dX12_test_54 : decode cX12_test 54 = .ok (.iastore, 1) := by decide +kernel
theorem dX12_test_55 : decode cX12_test 55 = .ok (.aload_n 0, 1) := by decide +kernel
theorem dX12_test_56 : decode cX12_test 56 = .ok (.dup, 1) := by decide +kernel
theorem dX12_test_57 : decode cX12_test 57 = .ok (.getfield 420, 3) := by decide +kernel
theorem dX12_test_60 : decode cX12_test 60 = .ok (.iconst 1, 1) := by decide +kernel
theorem dX12_test_61 : decode cX12_test 61 = .ok (.iadd, 1) := by decide +kernel
theorem dX12_test_62 : decode cX12_test 62 = .ok (.putfield 420, 3) := by decide +kernel
theorem dX12_test_65 : decode cX12_test 65 = .ok (.aload_n 0, 1) := by decide +kernel
theorem dX12_test_66 : decode cX12_test 66 = .ok (.getfield 420, 3) := by decide +kernel
theorem dX12_test_69 : decode cX12_test 69 = .ok (.iconst 1, 1) := by decide +kernel
theorem dX12_test_70 : decode cX12_test 70 = .ok (.isub, 1) := by decide +kernel
theorem dX12_test_71 : decode cX12_test 71 = .ok (.ireturn, 1) := by decide +kernel
theorem dX12_isLetNow_0 : decode cX12_isLetNow 0 = .ok (.iconst 0, 1) := by decide +kernel
theorem dX12_isLetNow_1 : decode cX12_isLetNow 1 = .ok (.istore_n 2, 1) := by decide +kernel
theorem dX12_isLetNow_2 : decode cX12_isLetNow 2 = .ok (.iload_n 2, 1) := by decide +kernel
theorem dX12_isLetNow_3 : decode cX12_isLetNow 3 = .ok (.aload_n 0, 1) := by decide +kernel
theorem dX12_isLetNow_4 : decode cX12_isLetNow 4 = .ok (.getfield 204, 3) := by decide +kernel
theorem dX12_isLetNow_7 : decode cX12_isLetNow 7 = .ok (.if_icmp .ge 88, 3) := by decide +kernel
theorem dX12_isLetNow_10 : decode cX12_isLetNow 10 = .ok (.iconst 0, 1) := by decide +kernel
theorem dX12_isLetNow_11 : decode cX12_isLetNow 11 = .ok (.istore_n 3, 1) := by decide +kernel
theorem dX12_isLetNow_12 : decode cX12_isLetNow 12 = .ok (.iconst 0, 1) := by decide +kernel
theorem dX12_isLetNow_13 : decode cX12_isLetNow 13 = .ok (.istore 4, 2) := by decide +kernel
theorem dX12_isLetNow_15 : decode cX12_isLetNow 15 = .ok (.iload 4, 2) := by decide +kernel
theorem dX12_isLetNow_17 : decode cX12_isLetNow 17 = .ok (.aload_n 0, 1) := by decide +kernel
theorem dX12_isLetNow_18 : decode cX12_isLetNow 18 = .ok (.getfield 189, 3) := by decide +kernel
theorem dX12_isLetNow_21 : decode cX12_isLetNow 21 = .ok (.if_icmp .ge 50, 3) := by decide +kernel
theorem dX12_isLetNow_24 : decode cX12_isLetNow 24 = .ok (.iload_n 3, 1) := by decide +kernel
theorem dX12_isLetNow_25 : decode cX12_isLetNow 25 = .ok (.ifCond .ne 34, 3) := by decide +kernel
theorem dX12_isLetNow_28 : decode cX12_isLetNow 28 = .ok (.aload_n 0, 1) := by decide +kernel
theorem dX12_isLetNow_29 : decode cX12_isLetNow 29 = .ok (.getfield 349, 3) := by decide +kernel
theorem dX12_isLetNow_32 : decode cX12_isLetNow 32 = .ok (.iload 4, 2) := by decide +kernel
theorem dX12_isLetNow_34 : decode cX12_isLetNow 34 = .ok (.invokestatic 200, 3) := by decide +kernel
theorem dX12_isLetNow_37 : decode cX12_isLetNow 37 = .ok (.ifCond .eq 26, 3) := by decide +kernel
theorem dX12_isLetNow_40 : decode cX12_isLetNow 40 = .ok (.aload_n 0, 1) := by decide +kernel
theorem dX12_isLetNow_41 : decode cX12_isLetNow 41 = .ok (.getfield 19, 3) := by decide +kernel
theorem dX12_isLetNow_44 : decode cX12_isLetNow 44 = .ok (.iload_n 2, 1) := by decide +kernel
theorem dX12_isLetNow_45 : decode cX12_isLetNow 45 = .ok (.iaload, 1) := by decide +kernel
theorem dX12_isLetNow_46 : decode cX12_isLetNow 46 = .ok (.aload_n 0, 1) := by decide +kernel
theorem dX12_isLetNow_47 : decode cX12_isLetNow 47 = .ok (.getfield 9, 3) := by decide +kernel
theorem dX12_isLetNow_50 : decode cX12_isLetNow 50 = .ok (.iload 4, 2) := by decide +kernel
theorem dX12_isLetNow_52 : decode cX12_isLetNow 52 = .ok (.iaload, 1) := by decide +kernel
theorem dX12_isLetNow_53 : decode cX12_isLetNow 53 = .ok (.iconst (-1), 1) := by decide +kernel
theorem dX12_isLetNow_54 : decode cX12_isLetNow 54 = .ok (.ixor, 1) := by decide +kernel
theorem dX12_isLetNow_55 : decode cX12_isLetNow 55 = .ok (.iand, 1) := by decide +kernel
theorem dX12_isLetNow_56 : decode cX12_isLetNow 56 = .ok (.ifCond .ne 7, 3) := by decide +kernel
theorem dX12_isLetNow_59 : decode cX12_isLetNow 59 = .ok (.iconst 1, 1) := by decide +kernel
theorem dX12_isLetNow_60 : decode cX12_isLetNow 60 = .ok (.goto 4, 3) := by decide +kernel
theorem dX12_isLetNow_63 : decode cX12_isLetNow 63 = .ok (.iconst 0, 1) := by decide +kernel
theorem dX12_isLetNow_64 : decode cX12_isLetNow 64 = .ok (.istore_n 3, 1) := by decide +kernel
theorem dX12_isLetNow_65 : decode cX12_isLetNow 65 = .ok (.iinc 4 1, 3) := by decide +kernel
theorem dX12_isLetNow_68 : decode cX12_isLetNow 68 = .ok (.goto (-53), 3) := by decide +kernel
theorem dX12_isLetNow_71 : decode cX12_isLetNow 71 = .ok (.iload_n 3, 1) := by decide +kernel
theorem dX12_isLetNow_72 : decode cX12_isLetNow 72 = .ok (.ifCond .ne 17, 3) := by decide +kernel
theorem dX12_isLetNow_75 : decode cX12_isLetNow 75 = .ok (.aload_n 0, 1) := by decide +kernel
theorem dX12_isLetNow_76 : decode cX12_isLetNow 76 = .ok (.iload_n 1, 1) := by decide +kernel
theorem dX12_isLetNow_77 : decode cX12_isLetNow 77 = .ok (.invokevirtual 207, 3) := by decide +kernel
theorem dX12_isLetNow_80 : decode cX12_isLetNow 80 = .ok (.iload_n 2, 1) := by decide +kernel
theorem dX12_isLetNow_81 : decode cX12_isLetNow 81 = .ok (.invokestatic 200, 3) := by decide +kernel
theorem dX12_isLetNow_84 : decode cX12_isLetNow 84 = .ok (.ifCond .eq 5, 3) := by decide +kernel
theorem dX12_isLetNow_87 : decode cX12_isLetNow 87 = .ok (.iconst 0, 1) := by decide +kernel
theorem dX12_isLetNow_88 : decode cX12_isLetNow 88 = .ok (.ireturn, 1) := by decide +kernel
theorem dX12_isLetNow_89 : decode cX12_isLetNow 89 = .ok (.iinc 2 1, 3) := by decide +kernel
theorem dX12_isLetNow_92 : decode cX12_isLetNow 92 = .ok (.goto (-90), 3) := by decide +kernel
theorem dX12_isLetNow_95 : decode cX12_isLetNow 95 = .ok (.iconst 1, 1) := by decide +kernel
theorem dX12_isLetNow_96 : decode cX12_isLetNow 96 = .ok (.ireturn, 1) := by decide +kernel
theorem dX12_behind_0 : decode cX12_behind 0 = .ok (.iconst 0, 1) := by decide +kernel
theorem dX12_behind_1 : decode cX12_behind 1 = .ok (.istore_n 3, 1) := by decide +kernel
theorem dX12_behind_2 : decode cX12_behind 2 = .ok (.iconst 0, 1) := by decide +kernel
theorem dX12_behind_3 : decode cX12_behind 3 = .ok (.istore 4, 2) := by decide +kernel
theorem dX12_behind_5 : decode cX12_behind 5 = .ok (.iload 4, 2) := by decide +kernel
theorem dX12_behind_7 : decode cX12_behind 7 = .ok (.aload_n 0, 1) := by decide +kernel
theorem dX12_behind_8 : decode cX12_behind 8 = .ok (.getfield 177, 3) := by decide +kernel
theorem dX12_behind_11 : decode cX12_behind 11 = .ok (.if_icmp .ge 54, 3) := by decide +kernel
theorem dX12_behind_14 : decode cX12_behind 14 = .ok (.aload_n 0, 1) := by decide +kernel
theorem dX12_behind_15 : decode cX12_behind 15 = .ok (.getfield 84, 3) := by decide +kernel
theorem dX12_behind_18 : decode cX12_behind 18 = .ok (.iload 4, 2) := by decide +kernel
theorem dX12_behind_20 : decode cX12_behind 20 = .ok (.iaload, 1) := by decide +kernel
theorem dX12_behind_21 : decode cX12_behind 21 = .ok (.iload_n 2, 1) := by decide +kernel
theorem dX12_behind_22 : decode cX12_behind 22 = .ok (.if_icmp .ne 37, 3) := by decide +kernel
theorem dX12_behind_25 : decode cX12_behind 25 = .ok (.aload_n 0, 1) := by decide +kernel
theorem dX12_behind_26 : decode cX12_behind 26 = .ok (.getfield 105, 3) := by decide +kernel
theorem dX12_behind_29 : decode cX12_behind 29 = .ok (.iload_n 1, 1) := by decide +kernel
theorem dX12_behind_30 : decode cX12_behind 30 = .ok (.iaload, 1) := by decide +kernel
theorem dX12_behind_31 : decode cX12_behind 31 = .ok (.iload 4, 2) := by decide +kernel
theorem dX12_behind_33 : decode cX12_behind 33 = .ok (.invokestatic 200, 3) := by decide +kernel
theorem dX12_behind_36 : decode cX12_behind 36 = .ok (.ifCond .eq 23, 3) := by decide +kernel
theorem dX12_behind_39 : decode cX12_behind 39 = .ok (.aload_n 0, 1) := by decide +kernel
theorem dX12_behind_40 : decode cX12_behind 40 = .ok (.aload_n 0, 1) := by decide +kernel
theorem dX12_behind_41 : decode cX12_behind 41 = .ok (.getfield 105, 3) := by decide +kernel
theorem dX12_behind_44 : decode cX12_behind 44 = .ok (.iload_n 1, 1) := by decide +kernel
theorem dX12_behind_45 : decode cX12_behind 45 = .ok (.iaload, 1) := by decide +kernel
theorem dX12_behind_46 : decode cX12_behind 46 = .ok (.invokevirtual 423, 3) := by decide +kernel
theorem dX12_behind_49 : decode cX12_behind 49 = .ok (.ifCond .eq 10, 3) := by decide +kernel
theorem dX12_behind_52 : decode cX12_behind 52 = .ok (.aload_n 0, 1) := by decide +kernel
theorem dX12_behind_53 : decode cX12_behind 53 = .ok (.getfield 108, 3) := by decide +kernel
theorem dX12_behind_56 : decode cX12_behind 56 = .ok (.iload_n 1, 1) := by decide +kernel
theorem dX12_behind_57 : decode cX12_behind 57 = .ok (.iaload, 1) := by decide +kernel
theorem dX12_behind_58 : decode cX12_behind 58 = .ok (.istore_n 3, 1) := by decide +kernel
theorem dX12_behind_59 : decode cX12_behind 59 = .ok (.iinc 4 1, 3) := by decide +kernel
theorem dX12_behind_62 : decode cX12_behind 62 = .ok (.goto (-57), 3) := by decide +kernel
theorem dX12_behind_65 : decode cX12_behind 65 = .ok (.aload_n 0, 1) := by decide +kernel
theorem dX12_behind_66 : decode cX12_behind 66 = .ok (.iload_n 2, 1) := by decide +kernel
theorem dX12_behind_67 : decode cX12_behind 67 = .ok (.iload_n 3, 1) := by decide +kernel
theorem dX12_behind_68 : decode cX12_behind 68 = .ok (.invokevirtual 352, 3) := by decide +kernel
theorem dX12_behind_71 : decode cX12_behind 71 = .ok (.ireturn, 1) := by decide +kernel
theorem dX12_seesOne_0 : decode cX12_seesOne 0 = .ok (.aload_n 0, 1) := by decide +kernel
theorem dX12_seesOne_1 : decode cX12_seesOne 1 = .ok (.iload_n 2, 1) := by decide +kernel
theorem dX12_seesOne_2 : decode cX12_seesOne 2 = .ok (.iconst 0, 1) := by decide +kernel
theorem dX12_seesOne_3 : decode cX12_seesOne 3 = .ok (.invokevirtual 362, 3) := by decide +kernel
theorem dX12_seesOne_6 : decode cX12_seesOne 6 = .ok (.iconst 0, 1) := by decide +kernel
theorem dX12_seesOne_7 : decode cX12_seesOne 7 = .ok (.istore 4, 2) := by decide +kernel
theorem dX12_seesOne_9 : decode cX12_seesOne 9 = .ok (.iload 4, 2) := by decide +kernel
theorem dX12_seesOne_11 : decode cX12_seesOne 11 = .ok (.aload_n 0, 1) := by decide +kernel
theorem dX12_seesOne_12 : decode cX12_seesOne 12 = .ok (.getfield 177, 3) := by decide +kernel
theorem dX12_seesOne_15 : decode cX12_seesOne 15 = .ok (.if_icmp .ge 23, 3) := by decide +kernel
theorem dX12_seesOne_18 : decode cX12_seesOne 18 = .ok (.aload_n 0, 1) := by decide +kernel
theorem dX12_seesOne_19 : decode cX12_seesOne 19 = .ok (.getfield 111, 3) := by decide +kernel
theorem dX12_seesOne_22 : decode cX12_seesOne 22 = .ok (.iload 4, 2) := by decide +kernel
theorem dX12_seesOne_24 : decode cX12_seesOne 24 = .ok (.aload_n 0, 1) := by decide +kernel
theorem dX12_seesOne_25 : decode cX12_seesOne 25 = .ok (.iload_n 1, 1) := by decide +kernel
theorem dX12_seesOne_26 : decode cX12_seesOne 26 = .ok (.iload 4, 2) := by decide +kernel
theorem dX12_seesOne_28 : decode cX12_seesOne 28 = .ok (.invokevirtual 426, 3) := by decide +kernel
theorem dX12_seesOne_31 : decode cX12_seesOne 31 = .ok (.iastore, 1) := by decide +kernel
theorem dX12_seesOne_32 : decode cX12_seesOne 32 = .ok (.iinc 4 1, 3) := by decide +kernel
theorem dX12_seesOne_35 : decode cX12_seesOne 35 = .ok (.goto (-26), 3) := by decide +kernel
theorem dX12_seesOne_38 : decode cX12_seesOne 38 = .ok (.aload_n 0, 1) := by decide +kernel
theorem dX12_seesOne_39 : decode cX12_seesOne 39 = .ok (.iload_n 2, 1) := by decide +kernel
theorem dX12_seesOne_40 : decode cX12_seesOne 40 = .ok (.iconst 1, 1) := by decide +kernel
theorem dX12_seesOne_41 : decode cX12_seesOne 41 = .ok (.iload_n 3, 1) := by decide +kernel
theorem dX12_seesOne_42 : decode cX12_seesOne 42 = .ok (.ishl, 1) := by decide +kernel
theorem dX12_seesOne_43 : decode cX12_seesOne 43 = .ok (.invokevirtual 362, 3) := by decide +kernel
theorem dX12_seesOne_46 : decode cX12_seesOne 46 = .ok (.iconst 0, 1) := by decide +kernel
theorem dX12_seesOne_47 : decode cX12_seesOne 47 = .ok (.istore 4, 2) := by decide +kernel
theorem dX12_seesOne_49 : decode cX12_seesOne 49 = .ok (.iload 4, 2) := by decide +kernel
theorem dX12_seesOne_51 : decode cX12_seesOne 51 = .ok (.aload_n 0, 1) := by decide +kernel
theorem dX12_seesOne_52 : decode cX12_seesOne 52 = .ok (.getfield 177, 3) := by decide +kernel
theorem dX12_seesOne_55 : decode cX12_seesOne 55 = .ok (.if_icmp .ge 39, 3) := by decide +kernel
theorem dX12_seesOne_58 : decode cX12_seesOne 58 = .ok (.aload_n 0, 1) := by decide +kernel
theorem dX12_seesOne_59 : decode cX12_seesOne 59 = .ok (.getfield 16, 3) := by decide +kernel
theorem dX12_seesOne_62 : decode cX12_seesOne 62 = .ok (.iload 4, 2) := by decide +kernel
theorem dX12_seesOne_64 : decode cX12_seesOne 64 = .ok (.iaload, 1) := by decide +kernel
theorem dX12_seesOne_65 : decode cX12_seesOne 65 = .ok (.iconst (-1), 1) := by decide +kernel
theorem dX12_seesOne_66 : decode cX12_seesOne 66 = .ok (.if_icmp .eq 22, 3) := by decide +kernel
theorem dX12_seesOne_69 : decode cX12_seesOne 69 = .ok (.aload_n 0, 1) := by decide +kernel
theorem dX12_seesOne_70 : decode cX12_seesOne 70 = .ok (.iload_n 1, 1) := by decide +kernel
theorem dX12_seesOne_71 : decode cX12_seesOne 71 = .ok (.iload 4, 2) := by decide +kernel
theorem dX12_seesOne_73 : decode cX12_seesOne 73 = .ok (.invokevirtual 426, 3) := by decide +kernel
theorem dX12_seesOne_76 : decode cX12_seesOne 76 = .ok (.aload_n 0, 1) := by decide +kernel
theorem dX12_seesOne_77 : decode cX12_seesOne 77 = .ok (.getfield 111, 3) := by decide +kernel
theorem dX12_seesOne_80 : decode cX12_seesOne 80 = .ok (.iload 4, 2) := by decide +kernel
theorem dX12_seesOne_82 : decode cX12_seesOne 82 = .ok (.iaload, 1) := by decide +kernel
theorem dX12_seesOne_83 : decode cX12_seesOne 83 = .ok (.if_icmp .eq 5, 3) := by decide +kernel
theorem dX12_seesOne_86 : decode cX12_seesOne 86 = .ok (.iconst 1, 1) := by decide +kernel
theorem dX12_seesOne_87 : decode cX12_seesOne 87 = .ok (.ireturn, 1) := by decide +kernel
theorem dX12_seesOne_88 : decode cX12_seesOne 88 = .ok (.iinc 4 1, 3) := by decide +kernel
theorem dX12_seesOne_91 : decode cX12_seesOne 91 = .ok (.goto (-42), 3) := by decide +kernel
theorem dX12_seesOne_94 : decode cX12_seesOne 94 = .ok (.iconst 0, 1) := by decide +kernel
theorem dX12_seesOne_95 : decode cX12_seesOne 95 = .ok (.ireturn, 1) := by decide +kernel
theorem dX12_seesOf_0 : decode cX12_seesOf 0 = .ok (.iconst 0, 1) := by decide +kernel
theorem dX12_seesOf_1 : decode cX12_seesOf 1 = .ok (.istore_n 3, 1) := by decide +kernel
theorem dX12_seesOf_2 : decode cX12_seesOf 2 = .ok (.iconst 0, 1) := by decide +kernel
theorem dX12_seesOf_3 : decode cX12_seesOf 3 = .ok (.istore 4, 2) := by decide +kernel
theorem dX12_seesOf_5 : decode cX12_seesOf 5 = .ok (.iload 4, 2) := by decide +kernel
theorem dX12_seesOf_7 : decode cX12_seesOf 7 = .ok (.aload_n 0, 1) := by decide +kernel
theorem dX12_seesOf_8 : decode cX12_seesOf 8 = .ok (.getfield 72, 3) := by decide +kernel
theorem dX12_seesOf_11 : decode cX12_seesOf 11 = .ok (.iload_n 2, 1) := by decide +kernel
theorem dX12_seesOf_12 : decode cX12_seesOf 12 = .ok (.iaload, 1) := by decide +kernel
theorem dX12_seesOf_13 : decode cX12_seesOf 13 = .ok (.if_icmp .ge 31, 3) := by decide +kernel
theorem dX12_seesOf_16 : decode cX12_seesOf 16 = .ok (.iload_n 3, 1) := by decide +kernel
theorem dX12_seesOf_17 : decode cX12_seesOf 17 = .ok (.aload_n 0, 1) := by decide +kernel
theorem dX12_seesOf_18 : decode cX12_seesOf 18 = .ok (.iload_n 1, 1) := by decide +kernel
theorem dX12_seesOf_19 : decode cX12_seesOf 19 = .ok (.iload_n 2, 1) := by decide +kernel
theorem dX12_seesOf_20 : decode cX12_seesOf 20 = .ok (.iload 4, 2) := by decide +kernel
theorem dX12_seesOf_22 : decode cX12_seesOf 22 = .ok (.invokevirtual 429, 3) := by decide +kernel
theorem dX12_seesOf_25 : decode cX12_seesOf 25 = .ok (.ifCond .eq 10, 3) := by decide +kernel
theorem dX12_seesOf_28 : decode cX12_seesOf 28 = .ok (.iconst 1, 1) := by decide +kernel
theorem dX12_seesOf_29 : decode cX12_seesOf 29 = .ok (.iload 4, 2) := by decide +kernel
theorem dX12_seesOf_31 : decode cX12_seesOf 31 = .ok (.ishl, 1) := by decide +kernel
theorem dX12_seesOf_32 : decode cX12_seesOf 32 = .ok (.goto 4, 3) := by decide +kernel
theorem dX12_seesOf_35 : decode cX12_seesOf 35 = .ok (.iconst 0, 1) := by decide +kernel
theorem dX12_seesOf_36 : decode cX12_seesOf 36 = .ok (.ior, 1) := by decide +kernel
theorem dX12_seesOf_37 : decode cX12_seesOf 37 = .ok (.istore_n 3, 1) := by decide +kernel
theorem dX12_seesOf_38 : decode cX12_seesOf 38 = .ok (.iinc 4 1, 3) := by decide +kernel
theorem dX12_seesOf_41 : decode cX12_seesOf 41 = .ok (.goto (-36), 3) := by decide +kernel
theorem dX12_seesOf_44 : decode cX12_seesOf 44 = .ok (.iload_n 3, 1) := by decide +kernel
theorem dX12_seesOf_45 : decode cX12_seesOf 45 = .ok (.ireturn, 1) := by decide +kernel
theorem dX12_sees_0 : decode cX12_sees 0 = .ok (.aload_n 0, 1) := by decide +kernel
theorem dX12_sees_1 : decode cX12_sees 1 = .ok (.iconst 0, 1) := by decide +kernel
theorem dX12_sees_2 : decode cX12_sees 2 = .ok (.putfield 180, 3) := by decide +kernel
theorem dX12_sees_5 : decode cX12_sees 5 = .ok (.iload_n 1, 1) := by decide +kernel
theorem dX12_sees_6 : decode cX12_sees 6 = .ok (.iconst 0, 1) := by decide +kernel
theorem dX12_sees_7 : decode cX12_sees 7 = .ok (.aload_n 0, 1) := by decide +kernel
theorem dX12_sees_8 : decode cX12_sees 8 = .ok (.getfield 420, 3) := by decide +kernel
theorem dX12_sees_11 : decode cX12_sees 11 = .ok (.iconst 1, 1) := by decide +kernel
theorem dX12_sees_12 : decode cX12_sees 12 = .ok (.isub, 1) := by decide +kernel
theorem dX12_sees_13 : decode cX12_sees 13 = .ok (.invokestatic 196, 3) := by decide +kernel
theorem dX12_sees_16 : decode cX12_sees 16 = .ok (.ifCond .eq 20, 3) := by decide +kernel
theorem dX12_sees_19 : decode cX12_sees 19 = .ok (.aload_n 0, 1) := by decide +kernel
theorem dX12_sees_20 : decode cX12_sees 20 = .ok (.iload_n 2, 1) := by decide +kernel
theorem dX12_sees_21 : decode cX12_sees 21 = .ok (.invokevirtual 337, 3) := by decide +kernel
theorem dX12_sees_24 : decode cX12_sees 24 = .ok (.ifCond .eq 12, 3) := by decide +kernel
theorem dX12_sees_27 : decode cX12_sees 27 = .ok (.aload_n 0, 1) := by decide +kernel
theorem dX12_sees_28 : decode cX12_sees 28 = .ok (.iload_n 1, 1) := by decide +kernel
theorem dX12_sees_29 : decode cX12_sees 29 = .ok (.iload_n 2, 1) := by decide +kernel
theorem dX12_sees_30 : decode cX12_sees 30 = .ok (.invokevirtual 432, 3) := by decide +kernel
theorem dX12_sees_33 : decode cX12_sees 33 = .ok (.goto 4, 3) := by decide +kernel
theorem dX12_sees_36 : decode cX12_sees 36 = .ok (.iconst (-1), 1) := by decide +kernel
theorem dX12_sees_37 : decode cX12_sees 37 = .ok (.ireturn, 1) := by decide +kernel
theorem dX12_seenBy_0 : decode cX12_seenBy 0 = .ok (.iconst 0, 1) := by decide +kernel
theorem dX12_seenBy_1 : decode cX12_seenBy 1 = .ok (.istore_n 2, 1) := by decide +kernel
theorem dX12_seenBy_2 : decode cX12_seenBy 2 = .ok (.iconst 0, 1) := by decide +kernel
theorem dX12_seenBy_3 : decode cX12_seenBy 3 = .ok (.istore_n 3, 1) := by decide +kernel
theorem dX12_seenBy_4 : decode cX12_seenBy 4 = .ok (.iload_n 3, 1) := by decide +kernel
theorem dX12_seenBy_5 : decode cX12_seenBy 5 = .ok (.aload_n 0, 1) := by decide +kernel
theorem dX12_seenBy_6 : decode cX12_seenBy 6 = .ok (.getfield 420, 3) := by decide +kernel
theorem dX12_seenBy_9 : decode cX12_seenBy 9 = .ok (.if_icmp .ge 30, 3) := by decide +kernel
theorem dX12_seenBy_12 : decode cX12_seenBy 12 = .ok (.iload_n 2, 1) := by decide +kernel
theorem dX12_seenBy_13 : decode cX12_seenBy 13 = .ok (.iload_n 1, 1) := by decide +kernel
theorem dX12_seenBy_14 : decode cX12_seenBy 14 = .ok (.iload_n 3, 1) := by decide +kernel
theorem dX12_seenBy_15 : decode cX12_seenBy 15 = .ok (.invokestatic 200, 3) := by decide +kernel
theorem dX12_seenBy_18 : decode cX12_seenBy 18 = .ok (.ifCond .eq 12, 3) := by decide +kernel
theorem dX12_seenBy_21 : decode cX12_seenBy 21 = .ok (.aload_n 0, 1) := by decide +kernel
theorem dX12_seenBy_22 : decode cX12_seenBy 22 = .ok (.getfield 114, 3) := by decide +kernel
theorem dX12_seenBy_25 : decode cX12_seenBy 25 = .ok (.iload_n 3, 1) := by decide +kernel
theorem dX12_seenBy_26 : decode cX12_seenBy 26 = .ok (.iaload, 1) := by decide +kernel
theorem dX12_seenBy_27 : decode cX12_seenBy 27 = .ok (.goto 4, 3) := by decide +kernel
theorem dX12_seenBy_30 : decode cX12_seenBy 30 = .ok (.iconst 0, 1) := by decide +kernel
theorem dX12_seenBy_31 : decode cX12_seenBy 31 = .ok (.ior, 1) := by decide +kernel
theorem dX12_seenBy_32 : decode cX12_seenBy 32 = .ok (.istore_n 2, 1) := by decide +kernel
theorem dX12_seenBy_33 : decode cX12_seenBy 33 = .ok (.iinc 3 1, 3) := by decide +kernel
theorem dX12_seenBy_36 : decode cX12_seenBy 36 = .ok (.goto (-32), 3) := by decide +kernel
theorem dX12_seenBy_39 : decode cX12_seenBy 39 = .ok (.iload_n 2, 1) := by decide +kernel
theorem dX12_seenBy_40 : decode cX12_seenBy 40 = .ok (.ireturn, 1) := by decide +kernel
theorem dX12_cover_0 : decode cX12_cover 0 = .ok (.aload_n 0, 1) := by decide +kernel
theorem dX12_cover_1 : decode cX12_cover 1 = .ok (.iconst 0, 1) := by decide +kernel
theorem dX12_cover_2 : decode cX12_cover 2 = .ok (.putfield 180, 3) := by decide +kernel
theorem dX12_cover_5 : decode cX12_cover 5 = .ok (.aload_n 0, 1) := by decide +kernel
theorem dX12_cover_6 : decode cX12_cover 6 = .ok (.iload_n 1, 1) := by decide +kernel
theorem dX12_cover_7 : decode cX12_cover 7 = .ok (.invokevirtual 337, 3) := by decide +kernel
theorem dX12_cover_10 : decode cX12_cover 10 = .ok (.ifCond .ne 5, 3) := by decide +kernel
theorem dX12_cover_13 : decode cX12_cover 13 = .ok (.iconst (-1), 1) := by decide +kernel
theorem dX12_cover_14 : decode cX12_cover 14 = .ok (.ireturn, 1) := by decide +kernel
theorem dX12_cover_15 : decode cX12_cover 15 = .ok (.iconst 0, 1) := by decide +kernel
theorem dX12_cover_16 : decode cX12_cover 16 = .ok (.istore_n 2, 1) := by decide +kernel
theorem dX12_cover_17 : decode cX12_cover 17 = .ok (.iload_n 2, 1) := by decide +kernel
theorem dX12_cover_18 : decode cX12_cover 18 = .ok (.aload_n 0, 1) := by decide +kernel
theorem dX12_cover_19 : decode cX12_cover 19 = .ok (.getfield 420, 3) := by decide +kernel
theorem dX12_cover_22 : decode cX12_cover 22 = .ok (.if_icmp .ge 21, 3) := by decide +kernel
theorem dX12_cover_25 : decode cX12_cover 25 = .ok (.aload_n 0, 1) := by decide +kernel
theorem dX12_cover_26 : decode cX12_cover 26 = .ok (.getfield 114, 3) := by decide +kernel
theorem dX12_cover_29 : decode cX12_cover 29 = .ok (.iload_n 2, 1) := by decide +kernel
theorem dX12_cover_30 : decode cX12_cover 30 = .ok (.aload_n 0, 1) := by decide +kernel
theorem dX12_cover_31 : decode cX12_cover 31 = .ok (.iload_n 2, 1) := by decide +kernel
theorem dX12_cover_32 : decode cX12_cover 32 = .ok (.iload_n 1, 1) := by decide +kernel
theorem dX12_cover_33 : decode cX12_cover 33 = .ok (.invokevirtual 432, 3) := by decide +kernel
theorem dX12_cover_36 : decode cX12_cover 36 = .ok (.iastore, 1) := by decide +kernel
theorem dX12_cover_37 : decode cX12_cover 37 = .ok (.iinc 2 1, 3) := by decide +kernel
theorem dX12_cover_40 : decode cX12_cover 40 = .ok (.goto (-23), 3) := by decide +kernel
theorem dX12_cover_43 : decode cX12_cover 43 = .ok (.aload_n 0, 1) := by decide +kernel
theorem dX12_cover_44 : decode cX12_cover 44 = .ok (.iconst 1, 1) := by decide +kernel
theorem dX12_cover_45 : decode cX12_cover 45 = .ok (.aload_n 0, 1) := by decide +kernel
theorem dX12_cover_46 : decode cX12_cover 46 = .ok (.getfield 420, 3) := by decide +kernel
theorem dX12_cover_49 : decode cX12_cover 49 = .ok (.ishl, 1) := by decide +kernel
theorem dX12_cover_50 : decode cX12_cover 50 = .ok (.iconst 1, 1) := by decide +kernel
theorem dX12_cover_51 : decode cX12_cover 51 = .ok (.isub, 1) := by decide +kernel
theorem dX12_cover_52 : decode cX12_cover 52 = .ok (.invokevirtual 435, 3) := by decide +kernel
theorem dX12_cover_55 : decode cX12_cover 55 = .ok (.istore_n 2, 1) := by decide +kernel
theorem dX12_cover_56 : decode cX12_cover 56 = .ok (.iconst (-1), 1) := by decide +kernel
theorem dX12_cover_57 : decode cX12_cover 57 = .ok (.istore_n 3, 1) := by decide +kernel
theorem dX12_cover_58 : decode cX12_cover 58 = .ok (.iconst 0, 1) := by decide +kernel
theorem dX12_cover_59 : decode cX12_cover 59 = .ok (.istore 4, 2) := by decide +kernel
theorem dX12_cover_61 : decode cX12_cover 61 = .ok (.iload 4, 2) := by decide +kernel
theorem dX12_cover_63 : decode cX12_cover 63 = .ok (.iconst 1, 1) := by decide +kernel
theorem dX12_cover_64 : decode cX12_cover 64 = .ok (.aload_n 0, 1) := by decide +kernel
theorem dX12_cover_65 : decode cX12_cover 65 = .ok (.getfield 420, 3) := by decide +kernel
theorem dX12_cover_68 : decode cX12_cover 68 = .ok (.ishl, 1) := by decide +kernel
theorem dX12_cover_69 : decode cX12_cover 69 = .ok (.if_icmp .ge 36, 3) := by decide +kernel
theorem dX12_cover_72 : decode cX12_cover 72 = .ok (.aload_n 0, 1) := by decide +kernel
theorem dX12_cover_73 : decode cX12_cover 73 = .ok (.iload 4, 2) := by decide +kernel
theorem dX12_cover_75 : decode cX12_cover 75 = .ok (.invokevirtual 435, 3) := by decide +kernel
theorem dX12_cover_78 : decode cX12_cover 78 = .ok (.iload_n 2, 1) := by decide +kernel
theorem dX12_cover_79 : decode cX12_cover 79 = .ok (.if_icmp .ne 20, 3) := by decide +kernel
theorem dX12_cover_82 : decode cX12_cover 82 = .ok (.iload_n 3, 1) := by decide +kernel
theorem dX12_cover_83 : decode cX12_cover 83 = .ok (.iconst (-1), 1) := by decide +kernel
theorem dX12_cover_84 : decode cX12_cover 84 = .ok (.if_icmp .eq 12, 3) := by decide +kernel
theorem dX12_cover_87 : decode cX12_cover 87 = .ok (.iload 4, 2) := by decide +kernel
theorem dX12_cover_89 : decode cX12_cover 89 = .ok (.iload_n 3, 1) := by decide +kernel
theorem dX12_cover_90 : decode cX12_cover 90 = .ok (.invokestatic 213, 3) := by decide +kernel
theorem dX12_cover_93 : decode cX12_cover 93 = .ok (.ifCond .eq 6, 3) := by decide +kernel
theorem dX12_cover_96 : decode cX12_cover 96 = .ok (.iload 4, 2) := by decide +kernel
theorem dX12_cover_98 : decode cX12_cover 98 = .ok (.istore_n 3, 1) := by decide +kernel
theorem dX12_cover_99 : decode cX12_cover 99 = .ok (.iinc 4 1, 3) := by decide +kernel
theorem dX12_cover_102 : decode cX12_cover 102 = .ok (.goto (-41), 3) := by decide +kernel
theorem dX12_cover_105 : decode cX12_cover 105 = .ok (.iload_n 3, 1) := by decide +kernel
theorem dX12_cover_106 : decode cX12_cover 106 = .ok (.ireturn, 1) := by decide +kernel
theorem dX12_layNames_0 : decode cX12_layNames 0 = .ok (.aload_n 0, 1) := by decide +kernel
theorem dX12_layNames_1 : decode cX12_layNames 1 = .ok (.iconst 0, 1) := by decide +kernel
theorem dX12_layNames_2 : decode cX12_layNames 2 = .ok (.putfield 438, 3) := by decide +kernel
theorem dX12_layNames_5 : decode cX12_layNames 5 = .ok (.iconst 0, 1) := by decide +kernel
theorem dX12_layNames_6 : decode cX12_layNames 6 = .ok (.istore 4, 2) := by decide +kernel
theorem dX12_layNames_8 : decode cX12_layNames 8 = .ok (.iload 4, 2) := by decide +kernel
theorem dX12_layNames_10 : decode cX12_layNames 10 = .ok (.aload_n 0, 1) := by decide +kernel
theorem dX12_layNames_11 : decode cX12_layNames 11 = .ok (.getfield 177, 3) := by decide +kernel
theorem dX12_layNames_14 : decode cX12_layNames 14 = .ok (.if_icmp .ge 44, 3) := by decide +kernel
theorem dX12_layNames_17 : decode cX12_layNames 17 = .ok (.aload_n 0, 1) := by decide +kernel
theorem dX12_layNames_18 : decode cX12_layNames 18 = .ok (.getfield 16, 3) := by decide +kernel
theorem dX12_layNames_21 : decode cX12_layNames 21 = .ok (.iload 4, 2) := by decide +kernel
theorem dX12_layNames_23 : decode cX12_layNames 23 = .ok (.iaload, 1) := by decide +kernel
theorem dX12_layNames_24 : decode cX12_layNames 24 = .ok (.iload_n 1, 1) := by decide +kernel
theorem dX12_layNames_25 : decode cX12_layNames 25 = .ok (.if_icmp .eq 6, 3) := by decide +kernel
theorem dX12_layNames_28 : decode cX12_layNames 28 = .ok (.goto 24, 3) := by decide +kernel
theorem dX12_layNames_31 : decode cX12_layNames 31 = .ok (.aload_n 0, 1) := by decide +kernel
theorem dX12_layNames_32 : decode cX12_layNames 32 = .ok (.getfield 117, 3) := by decide +kernel
theorem dX12_layNames_35 : decode cX12_layNames 35 = .ok (.aload_n 0, 1) := by decide +kernel
theorem dX12_layNames_36 : decode cX12_layNames 36 = .ok (.getfield 438, 3) := by decide +kernel
theorem dX12_layNames_39 : decode cX12_layNames 39 = .ok (.iload 4, 2) := by decide +kernel
theorem dX12_layNames_41 : decode cX12_layNames 41 = .ok (.iastore, 1) := by decide +kernel
theorem dX12_layNames_42 : decode cX12_layNames 42 = .ok (.aload_n 0, 1) := by decide +kernel
theorem dX12_layNames_43 : decode cX12_layNames 43 = .ok (.dup, 1) := by decide +kernel
theorem dX12_layNames_44 : decode cX12_layNames 44 = .ok (.getfield 438, 3) := by decide +kernel
theorem dX12_layNames_47 : decode cX12_layNames 47 = .ok (.iconst 1, 1) := by decide +kernel
theorem dX12_layNames_48 : decode cX12_layNames 48 = .ok (.iadd, 1) := by decide +kernel
theorem dX12_layNames_49 : decode cX12_layNames 49 = .ok (.putfield 438, 3) := by decide +kernel
theorem dX12_layNames_52 : decode cX12_layNames 52 = .ok (.iinc 4 1, 3) := by decide +kernel
theorem dX12_layNames_55 : decode cX12_layNames 55 = .ok (.goto (-47), 3) := by decide +kernel
theorem dX12_layNames_58 : decode cX12_layNames 58 = .ok (.lload_n 2, 1) := by decide +kernel
theorem dX12_layNames_59 : decode cX12_layNames 59 = .ok (.lstore 4, 2) := by decide +kernel
theorem dX12_layNames_61 : decode cX12_layNames 61 = .ok (.aload_n 0, 1) := by decide +kernel
theorem dX12_layNames_62 : decode cX12_layNames 62 = .ok (.getfield 438, 3) := by decide +kernel
theorem dX12_layNames_65 : decode cX12_layNames 65 = .ok (.iconst 1, 1) := by decide +kernel
theorem dX12_layNames_66 : decode cX12_layNames 66 = .ok (.isub, 1) := by decide +kernel
theorem dX12_layNames_67 : decode cX12_layNames 67 = .ok (.istore 6, 2) := by decide +kernel
theorem dX12_layNames_69 : decode cX12_layNames 69 = .ok (.iload 6, 2) := by decide +kernel
theorem dX12_layNames_71 : decode cX12_layNames 71 = .ok (.ifCond .le 67, 3) := by decide +kernel
theorem dX12_layNames_74 : decode cX12_layNames 74 = .ok (.lload 4, 2) := by decide +kernel
theorem dX12_layNames_76 : decode cX12_layNames 76 = .ok (.ldc2_w 441, 3) := by decide +kernel
theorem dX12_layNames_79 : decode cX12_layNames 79 = .ok (.lmul, 1) := by decide +kernel
theorem dX12_layNames_80 : decode cX12_layNames 80 = .ok (.ldc2_w 443, 3) := by decide +kernel
theorem dX12_layNames_83 : decode cX12_layNames 83 = .ok (.ladd, 1) := by decide +kernel
theorem dX12_layNames_84 : decode cX12_layNames 84 = .ok (.lstore 4, 2) := by decide +kernel
theorem dX12_layNames_86 : decode cX12_layNames 86 = .ok (.lload 4, 2) := by decide +kernel
theorem dX12_layNames_88 : decode cX12_layNames 88 = .ok (.bipush 33, 2) := by decide +kernel
theorem dX12_layNames_90 : decode cX12_layNames 90 = .ok (.lushr, 1) := by decide +kernel
theorem dX12_layNames_91 : decode cX12_layNames 91 = .ok (.iload 6, 2) := by decide +kernel
theorem dX12_layNames_93 : decode cX12_layNames 93 = .ok (.iconst 1, 1) := by decide +kernel
theorem dX12_layNames_94 : decode cX12_layNames 94 = .ok (.iadd, 1) := by decide +kernel
theorem dX12_layNames_95 : decode cX12_layNames 95 = .ok (.i2l, 1) := by decide +kernel
theorem dX12_layNames_96 : decode cX12_layNames 96 = .ok (.lrem, 1) := by decide +kernel
theorem dX12_layNames_97 : decode cX12_layNames 97 = .ok (.l2i, 1) := by decide +kernel
theorem dX12_layNames_98 : decode cX12_layNames 98 = .ok (.istore 7, 2) := by decide +kernel
theorem dX12_layNames_100 : decode cX12_layNames 100 = .ok (.aload_n 0, 1) := by decide +kernel
theorem dX12_layNames_101 : decode cX12_layNames 101 = .ok (.getfield 117, 3) := by decide +kernel
theorem dX12_layNames_104 : decode cX12_layNames 104 = .ok (.iload 6, 2) := by decide +kernel
theorem dX12_layNames_106 : decode cX12_layNames 106 = .ok (.iaload, 1) := by decide +kernel
theorem dX12_layNames_107 : decode cX12_layNames 107 = .ok (.istore 8, 2) := by decide +kernel
theorem dX12_layNames_109 : decode cX12_layNames 109 = .ok (.aload_n 0, 1) := by decide +kernel
theorem dX12_layNames_110 : decode cX12_layNames 110 = .ok (.getfield 117, 3) := by decide +kernel
theorem dX12_layNames_113 : decode cX12_layNames 113 = .ok (.iload 6, 2) := by decide +kernel
theorem dX12_layNames_115 : decode cX12_layNames 115 = .ok (.aload_n 0, 1) := by decide +kernel
theorem dX12_layNames_116 : decode cX12_layNames 116 = .ok (.getfield 117, 3) := by decide +kernel
theorem dX12_layNames_119 : decode cX12_layNames 119 = .ok (.iload 7, 2) := by decide +kernel
theorem dX12_layNames_121 : decode cX12_layNames 121 = .ok (.iaload, 1) := by decide +kernel
theorem dX12_layNames_122 : decode cX12_layNames 122 = .ok (.iastore, 1) := by decide +kernel
theorem dX12_layNames_123 : decode cX12_layNames 123 = .ok (.aload_n 0, 1) := by decide +kernel
theorem dX12_layNames_124 : decode cX12_layNames 124 = .ok (.getfield 117, 3) := by decide +kernel
theorem dX12_layNames_127 : decode cX12_layNames 127 = .ok (.iload 7, 2) := by decide +kernel
theorem dX12_layNames_129 : decode cX12_layNames 129 = .ok (.iload 8, 2) := by decide +kernel
theorem dX12_layNames_131 : decode cX12_layNames 131 = .ok (.iastore, 1) := by decide +kernel
theorem dX12_layNames_132 : decode cX12_layNames 132 = .ok (.iinc 6 (-1), 3) := by decide +kernel
theorem dX12_layNames_135 : decode cX12_layNames 135 = .ok (.goto (-66), 3) := by decide +kernel
theorem dX12_layNames_138 : decode cX12_layNames 138 = .ok (.return_, 1) := by decide +kernel
theorem dX12_nameAt_0 : decode cX12_nameAt 0 = .ok (.aload_n 0, 1) := by decide +kernel
theorem dX12_nameAt_1 : decode cX12_nameAt 1 = .ok (.getfield 117, 3) := by decide +kernel
theorem dX12_nameAt_4 : decode cX12_nameAt 4 = .ok (.iload_n 1, 1) := by decide +kernel
theorem dX12_nameAt_5 : decode cX12_nameAt 5 = .ok (.iload_n 2, 1) := by decide +kernel
theorem dX12_nameAt_6 : decode cX12_nameAt 6 = .ok (.isub, 1) := by decide +kernel
theorem dX12_nameAt_7 : decode cX12_nameAt 7 = .ok (.aload_n 0, 1) := by decide +kernel
theorem dX12_nameAt_8 : decode cX12_nameAt 8 = .ok (.getfield 438, 3) := by decide +kernel
theorem dX12_nameAt_11 : decode cX12_nameAt 11 = .ok (.irem, 1) := by decide +kernel
theorem dX12_nameAt_12 : decode cX12_nameAt 12 = .ok (.aload_n 0, 1) := by decide +kernel
theorem dX12_nameAt_13 : decode cX12_nameAt 13 = .ok (.getfield 438, 3) := by decide +kernel
theorem dX12_nameAt_16 : decode cX12_nameAt 16 = .ok (.iadd, 1) := by decide +kernel
theorem dX12_nameAt_17 : decode cX12_nameAt 17 = .ok (.aload_n 0, 1) := by decide +kernel
theorem dX12_nameAt_18 : decode cX12_nameAt 18 = .ok (.getfield 438, 3) := by decide +kernel
theorem dX12_nameAt_21 : decode cX12_nameAt 21 = .ok (.irem, 1) := by decide +kernel
theorem dX12_nameAt_22 : decode cX12_nameAt 22 = .ok (.iaload, 1) := by decide +kernel
theorem dX12_nameAt_23 : decode cX12_nameAt 23 = .ok (.ireturn, 1) := by decide +kernel
theorem dX12_name_0 : decode cX12_name 0 = .ok (.aload_n 0, 1) := by decide +kernel
theorem dX12_name_1 : decode cX12_name 1 = .ok (.iconst 0, 1) := by decide +kernel
theorem dX12_name_2 : decode cX12_name 2 = .ok (.putfield 180, 3) := by decide +kernel
theorem dX12_name_5 : decode cX12_name 5 = .ok (.iload_n 1, 1) := by decide +kernel
theorem dX12_name_6 : decode cX12_name 6 = .ok (.iconst 0, 1) := by decide +kernel
theorem dX12_name_7 : decode cX12_name 7 = .ok (.aload_n 0, 1) := by decide +kernel
theorem dX12_name_8 : decode cX12_name 8 = .ok (.getfield 189, 3) := by decide +kernel
theorem dX12_name_11 : decode cX12_name 11 = .ok (.iconst 1, 1) := by decide +kernel
theorem dX12_name_12 : decode cX12_name 12 = .ok (.isub, 1) := by decide +kernel
theorem dX12_name_13 : decode cX12_name 13 = .ok (.invokestatic 196, 3) := by decide +kernel
theorem dX12_name_16 : decode cX12_name 16 = .ok (.ifCond .eq 33, 3) := by decide +kernel
theorem dX12_name_19 : decode cX12_name 19 = .ok (.iload 4, 2) := by decide +kernel
theorem dX12_name_21 : decode cX12_name 21 = .ok (.iconst 0, 1) := by decide +kernel
theorem dX12_name_22 : decode cX12_name 22 = .ok (.iconst 5, 1) := by decide +kernel
theorem dX12_name_23 : decode cX12_name 23 = .ok (.invokestatic 196, 3) := by decide +kernel
theorem dX12_name_26 : decode cX12_name 26 = .ok (.ifCond .eq 23, 3) := by decide +kernel
theorem dX12_name_29 : decode cX12_name 29 = .ok (.iload 5, 2) := by decide +kernel
theorem dX12_name_31 : decode cX12_name 31 = .ok (.iconst 0, 1) := by decide +kernel
theorem dX12_name_32 : decode cX12_name 32 = .ok (.aload_n 0, 1) := by decide +kernel
theorem dX12_name_33 : decode cX12_name 33 = .ok (.getfield 9, 3) := by decide +kernel
theorem dX12_name_36 : decode cX12_name 36 = .ok (.iload_n 1, 1) := by decide +kernel
theorem dX12_name_37 : decode cX12_name 37 = .ok (.iaload, 1) := by decide +kernel
theorem dX12_name_38 : decode cX12_name 38 = .ok (.invokestatic 183, 3) := by decide +kernel
theorem dX12_name_41 : decode cX12_name 41 = .ok (.iconst 1, 1) := by decide +kernel
theorem dX12_name_42 : decode cX12_name 42 = .ok (.isub, 1) := by decide +kernel
theorem dX12_name_43 : decode cX12_name 43 = .ok (.invokestatic 196, 3) := by decide +kernel
theorem dX12_name_46 : decode cX12_name 46 = .ok (.ifCond .ne 5, 3) := by decide +kernel
theorem dX12_name_49 : decode cX12_name 49 = .ok (.iconst (-1), 1) := by decide +kernel
theorem dX12_name_50 : decode cX12_name 50 = .ok (.ireturn, 1) := by decide +kernel
theorem dX12_name_51 : decode cX12_name 51 = .ok (.aload_n 0, 1) := by decide +kernel
theorem dX12_name_52 : decode cX12_name 52 = .ok (.iload_n 1, 1) := by decide +kernel
theorem dX12_name_53 : decode cX12_name 53 = .ok (.lload_n 2, 1) := by decide +kernel
theorem dX12_name_54 : decode cX12_name 54 = .ok (.invokevirtual 445, 3) := by decide +kernel
theorem dX12_name_57 : decode cX12_name 57 = .ok (.aload_n 0, 1) := by decide +kernel
theorem dX12_name_58 : decode cX12_name 58 = .ok (.iload 5, 2) := by decide +kernel
theorem dX12_name_60 : decode cX12_name 60 = .ok (.iload 4, 2) := by decide +kernel
theorem dX12_name_62 : decode cX12_name 62 = .ok (.invokevirtual 449, 3) := by decide +kernel
theorem dX12_name_65 : decode cX12_name 65 = .ok (.ireturn, 1) := by decide +kernel
theorem dX12_first_0 : decode cX12_first 0 = .ok (.aload_n 0, 1) := by decide +kernel
theorem dX12_first_1 : decode cX12_first 1 = .ok (.iconst 0, 1) := by decide +kernel
theorem dX12_first_2 : decode cX12_first 2 = .ok (.putfield 180, 3) := by decide +kernel
theorem dX12_first_5 : decode cX12_first 5 = .ok (.aload_n 0, 1) := by decide +kernel
theorem dX12_first_6 : decode cX12_first 6 = .ok (.iload_n 1, 1) := by decide +kernel
theorem dX12_first_7 : decode cX12_first 7 = .ok (.invokevirtual 384, 3) := by decide +kernel
theorem dX12_first_10 : decode cX12_first 10 = .ok (.ifCond .eq 14, 3) := by decide +kernel
theorem dX12_first_13 : decode cX12_first 13 = .ok (.iload 4, 2) := by decide +kernel
theorem dX12_first_15 : decode cX12_first 15 = .ok (.iconst 1, 1) := by decide +kernel
theorem dX12_first_16 : decode cX12_first 16 = .ok (.bipush 100, 2) := by decide +kernel
theorem dX12_first_18 : decode cX12_first 18 = .ok (.invokestatic 196, 3) := by decide +kernel
theorem dX12_first_21 : decode cX12_first 21 = .ok (.ifCond .ne 5, 3) := by decide +kernel
theorem dX12_first_24 : decode cX12_first 24 = .ok (.iconst (-1), 1) := by decide +kernel
theorem dX12_first_25 : decode cX12_first 25 = .ok (.ireturn, 1) := by decide +kernel
theorem dX12_first_26 : decode cX12_first 26 = .ok (.aload_n 0, 1) := by decide +kernel
theorem dX12_first_27 : decode cX12_first 27 = .ok (.aload_n 0, 1) := by decide +kernel
theorem dX12_first_28 : decode cX12_first 28 = .ok (.getfield 16, 3) := by decide +kernel
theorem dX12_first_31 : decode cX12_first 31 = .ok (.iload_n 1, 1) := by decide +kernel
theorem dX12_first_32 : decode cX12_first 32 = .ok (.iaload, 1) := by decide +kernel
theorem dX12_first_33 : decode cX12_first 33 = .ok (.lload_n 2, 1) := by decide +kernel
theorem dX12_first_34 : decode cX12_first 34 = .ok (.invokevirtual 445, 3) := by decide +kernel
theorem dX12_first_37 : decode cX12_first 37 = .ok (.iconst 0, 1) := by decide +kernel
theorem dX12_first_38 : decode cX12_first 38 = .ok (.istore 5, 2) := by decide +kernel
theorem dX12_first_40 : decode cX12_first 40 = .ok (.iconst 0, 1) := by decide +kernel
theorem dX12_first_41 : decode cX12_first 41 = .ok (.istore 6, 2) := by decide +kernel
theorem dX12_first_43 : decode cX12_first 43 = .ok (.iload 6, 2) := by decide +kernel
theorem dX12_first_45 : decode cX12_first 45 = .ok (.iload 4, 2) := by decide +kernel
theorem dX12_first_47 : decode cX12_first 47 = .ok (.if_icmp .ge 30, 3) := by decide +kernel
theorem dX12_first_50 : decode cX12_first 50 = .ok (.iload 5, 2) := by decide +kernel
theorem dX12_first_52 : decode cX12_first 52 = .ok (.aload_n 0, 1) := by decide +kernel
theorem dX12_first_53 : decode cX12_first 53 = .ok (.iconst 0, 1) := by decide +kernel
theorem dX12_first_54 : decode cX12_first 54 = .ok (.iload 6, 2) := by decide +kernel
theorem dX12_first_56 : decode cX12_first 56 = .ok (.invokevirtual 449, 3) := by decide +kernel
theorem dX12_first_59 : decode cX12_first 59 = .ok (.iload_n 1, 1) := by decide +kernel
theorem dX12_first_60 : decode cX12_first 60 = .ok (.if_icmp .ne 7, 3) := by decide +kernel
theorem dX12_first_63 : decode cX12_first 63 = .ok (.iconst 1, 1) := by decide +kernel
theorem dX12_first_64 : decode cX12_first 64 = .ok (.goto 4, 3) := by decide +kernel
theorem dX12_first_67 : decode cX12_first 67 = .ok (.iconst 0, 1) := by decide +kernel
theorem dX12_first_68 : decode cX12_first 68 = .ok (.iadd, 1) := by decide +kernel
theorem dX12_first_69 : decode cX12_first 69 = .ok (.istore 5, 2) := by decide +kernel
theorem dX12_first_71 : decode cX12_first 71 = .ok (.iinc 6 1, 3) := by decide +kernel
theorem dX12_first_74 : decode cX12_first 74 = .ok (.goto (-31), 3) := by decide +kernel
theorem dX12_first_77 : decode cX12_first 77 = .ok (.iload 5, 2) := by decide +kernel
theorem dX12_first_79 : decode cX12_first 79 = .ok (.ireturn, 1) := by decide +kernel
theorem dX12_isText_0 : decode cX12_isText 0 = .ok (.aload_n 0, 1) := by decide +kernel
theorem dX12_isText_1 : decode cX12_isText 1 = .ok (.getfield 229, 3) := by decide +kernel
theorem dX12_isText_4 : decode cX12_isText 4 = .ok (.iconst 1, 1) := by decide +kernel
theorem dX12_isText_5 : decode cX12_isText 5 = .ok (.if_icmp .lt 12, 3) := by decide +kernel
theorem dX12_isText_8 : decode cX12_isText 8 = .ok (.aload_n 0, 1) := by decide +kernel
theorem dX12_isText_9 : decode cX12_isText 9 = .ok (.getfield 229, 3) := by decide +kernel
theorem dX12_isText_12 : decode cX12_isText 12 = .ok (.bipush 8, 2) := by decide +kernel
theorem dX12_isText_14 : decode cX12_isText 14 = .ok (.if_icmp .le 5, 3) := by decide +kernel
theorem dX12_isText_17 : decode cX12_isText 17 = .ok (.iconst 0, 1) := by decide +kernel
theorem dX12_isText_18 : decode cX12_isText 18 = .ok (.ireturn, 1) := by decide +kernel
theorem dX12_isText_19 : decode cX12_isText 19 = .ok (.iconst 0, 1) := by decide +kernel
theorem dX12_isText_20 : decode cX12_isText 20 = .ok (.istore_n 2, 1) := by decide +kernel
theorem dX12_isText_21 : decode cX12_isText 21 = .ok (.iload_n 2, 1) := by decide +kernel
theorem dX12_isText_22 : decode cX12_isText 22 = .ok (.aload_n 0, 1) := by decide +kernel
theorem dX12_isText_23 : decode cX12_isText 23 = .ok (.getfield 229, 3) := by decide +kernel
theorem dX12_isText_26 : decode cX12_isText 26 = .ok (.if_icmp .ge 48, 3) := by decide +kernel
theorem dX12_isText_29 : decode cX12_isText 29 = .ok (.aload_n 0, 1) := by decide +kernel
theorem dX12_isText_30 : decode cX12_isText 30 = .ok (.getfield 29, 3) := by decide +kernel
theorem dX12_isText_33 : decode cX12_isText 33 = .ok (.iload_n 2, 1) := by decide +kernel
theorem dX12_isText_34 : decode cX12_isText 34 = .ok (.baload, 1) := by decide +kernel
theorem dX12_isText_35 : decode cX12_isText 35 = .ok (.bipush 97, 2) := by decide +kernel
theorem dX12_isText_37 : decode cX12_isText 37 = .ok (.if_icmp .lt 14, 3) := by decide +kernel
theorem dX12_isText_40 : decode cX12_isText 40 = .ok (.aload_n 0, 1) := by decide +kernel
theorem dX12_isText_41 : decode cX12_isText 41 = .ok (.getfield 29, 3) := by decide +kernel
theorem dX12_isText_44 : decode cX12_isText 44 = .ok (.iload_n 2, 1) := by decide +kernel
theorem dX12_isText_45 : decode cX12_isText 45 = .ok (.baload, 1) := by decide +kernel
theorem dX12_isText_46 : decode cX12_isText 46 = .ok (.bipush 122, 2) := by decide +kernel
theorem dX12_isText_48 : decode cX12_isText 48 = .ok (.if_icmp .le 20, 3) := by decide +kernel
theorem dX12_isText_51 : decode cX12_isText 51 = .ok (.iload_n 1, 1) := by decide +kernel
theorem dX12_isText_52 : decode cX12_isText 52 = .ok (.ifCond .eq 14, 3) := by decide +kernel
theorem dX12_isText_55 : decode cX12_isText 55 = .ok (.aload_n 0, 1) := by decide +kernel
theorem dX12_isText_56 : decode cX12_isText 56 = .ok (.getfield 29, 3) := by decide +kernel
theorem dX12_isText_59 : decode cX12_isText 59 = .ok (.iload_n 2, 1) := by decide +kernel
theorem dX12_isText_60 : decode cX12_isText 60 = .ok (.baload, 1) := by decide +kernel
theorem dX12_isText_61 : decode cX12_isText 61 = .ok (.bipush 46, 2) := by decide +kernel
theorem dX12_isText_63 : decode cX12_isText 63 = .ok (.if_icmp .eq 5, 3) := by decide +kernel
theorem dX12_isText_66 : decode cX12_isText 66 = .ok (.iconst 0, 1) := by decide +kernel
theorem dX12_isText_67 : decode cX12_isText 67 = .ok (.ireturn, 1) := by decide +kernel
theorem dX12_isText_68 : decode cX12_isText 68 = .ok (.iinc 2 1, 3) := by decide +kernel
theorem dX12_isText_71 : decode cX12_isText 71 = .ok (.goto (-50), 3) := by decide +kernel
theorem dX12_isText_74 : decode cX12_isText 74 = .ok (.iconst 1, 1) := by decide +kernel
theorem dX12_isText_75 : decode cX12_isText 75 = .ok (.ireturn, 1) := by decide +kernel
theorem dX12_isTapeName_0 : decode cX12_isTapeName 0 = .ok (.aload_n 0, 1) := by decide +kernel
theorem dX12_isTapeName_1 : decode cX12_isTapeName 1 = .ok (.getfield 126, 3) := by decide +kernel
theorem dX12_isTapeName_4 : decode cX12_isTapeName 4 = .ok (.iload_n 1, 1) := by decide +kernel
theorem dX12_isTapeName_5 : decode cX12_isTapeName 5 = .ok (.iaload, 1) := by decide +kernel
theorem dX12_isTapeName_6 : decode cX12_isTapeName 6 = .ok (.aload_n 0, 1) := by decide +kernel
theorem dX12_isTapeName_7 : decode cX12_isTapeName 7 = .ok (.getfield 229, 3) := by decide +kernel
theorem dX12_isTapeName_10 : decode cX12_isTapeName 10 = .ok (.if_icmp .eq 5, 3) := by decide +kernel
theorem dX12_isTapeName_13 : decode cX12_isTapeName 13 = .ok (.iconst 0, 1) := by decide +kernel
theorem dX12_isTapeName_14 : decode cX12_isTapeName 14 = .ok (.ireturn, 1) := by decide +kernel
theorem dX12_isTapeName_15 : decode cX12_isTapeName 15 = .ok (.iconst 0, 1) := by decide +kernel
theorem dX12_isTapeName_16 : decode cX12_isTapeName 16 = .ok (.istore_n 2, 1) := by decide +kernel
theorem dX12_isTapeName_17 : decode cX12_isTapeName 17 = .ok (.iload_n 2, 1) := by decide +kernel
theorem dX12_isTapeName_18 : decode cX12_isTapeName 18 = .ok (.aload_n 0, 1) := by decide +kernel
theorem dX12_isTapeName_19 : decode cX12_isTapeName 19 = .ok (.getfield 229, 3) := by decide +kernel
theorem dX12_isTapeName_22 : decode cX12_isTapeName 22 = .ok (.if_icmp .ge 31, 3) := by decide +kernel
theorem dX12_isTapeName_25 : decode cX12_isTapeName 25 = .ok (.aload_n 0, 1) := by decide +kernel
theorem dX12_isTapeName_26 : decode cX12_isTapeName 26 = .ok (.getfield 120, 3) := by decide +kernel
theorem dX12_isTapeName_29 : decode cX12_isTapeName 29 = .ok (.bipush 8, 2) := by decide +kernel
theorem dX12_isTapeName_31 : decode cX12_isTapeName 31 = .ok (.iload_n 1, 1) := by decide +kernel
theorem dX12_isTapeName_32 : decode cX12_isTapeName 32 = .ok (.imul, 1) := by decide +kernel
theorem dX12_isTapeName_33 : decode cX12_isTapeName 33 = .ok (.iload_n 2, 1) := by decide +kernel
theorem dX12_isTapeName_34 : decode cX12_isTapeName 34 = .ok (.iadd, 1) := by decide +kernel
theorem dX12_isTapeName_35 : decode cX12_isTapeName 35 = .ok (.baload, 1) := by decide +kernel
theorem dX12_isTapeName_36 : decode cX12_isTapeName 36 = .ok (.aload_n 0, 1) := by decide +kernel
theorem dX12_isTapeName_37 : decode cX12_isTapeName 37 = .ok (.getfield 29, 3) := by decide +kernel
theorem dX12_isTapeName_40 : decode cX12_isTapeName 40 = .ok (.iload_n 2, 1) := by decide +kernel
theorem dX12_isTapeName_41 : decode cX12_isTapeName 41 = .ok (.baload, 1) := by decide +kernel
theorem dX12_isTapeName_42 : decode cX12_isTapeName 42 = .ok (.if_icmp .eq 5, 3) := by decide +kernel
theorem dX12_isTapeName_45 : decode cX12_isTapeName 45 = .ok (.iconst 0, 1) := by decide +kernel
theorem dX12_isTapeName_46 : decode cX12_isTapeName 46 = .ok (.ireturn, 1) := by decide +kernel
theorem dX12_isTapeName_47 : decode cX12_isTapeName 47 = .ok (.iinc 2 1, 3) := by decide +kernel
theorem dX12_isTapeName_50 : decode cX12_isTapeName 50 = .ok (.goto (-33), 3) := by decide +kernel
theorem dX12_isTapeName_53 : decode cX12_isTapeName 53 = .ok (.iconst 1, 1) := by decide +kernel
theorem dX12_isTapeName_54 : decode cX12_isTapeName 54 = .ok (.ireturn, 1) := by decide +kernel
theorem dX12_known_0 : decode cX12_known 0 = .ok (.aload_n 0, 1) := by decide +kernel
theorem dX12_known_1 : decode cX12_known 1 = .ok (.iconst 0, 1) := by decide +kernel
theorem dX12_known_2 : decode cX12_known 2 = .ok (.putfield 180, 3) := by decide +kernel
theorem dX12_known_5 : decode cX12_known 5 = .ok (.aload_n 0, 1) := by decide +kernel
theorem dX12_known_6 : decode cX12_known 6 = .ok (.getfield 452, 3) := by decide +kernel
theorem dX12_known_9 : decode cX12_known 9 = .ok (.bipush 8, 2) := by decide +kernel
theorem dX12_known_11 : decode cX12_known 11 = .ok (.if_icmp .eq 11, 3) := by decide +kernel
theorem dX12_known_14 : decode cX12_known 14 = .ok (.aload_n 0, 1) := by decide +kernel
theorem dX12_known_15 : decode cX12_known 15 = .ok (.iconst 0, 1) := by decide +kernel
theorem dX12_known_16 : decode cX12_known 16 = .ok (.invokevirtual 455, 3) := by decide +kernel
theorem dX12_known_19 : decode cX12_known 19 = .ok (.ifCond .ne 5, 3) := by decide +kernel
theorem dX12_known_22 : decode cX12_known 22 = .ok (.iconst (-1), 1) := by decide +kernel
theorem dX12_known_23 : decode cX12_known 23 = .ok (.ireturn, 1) := by decide +kernel
theorem dX12_known_24 : decode cX12_known 24 = .ok (.iconst 0, 1) := by decide +kernel
theorem dX12_known_25 : decode cX12_known 25 = .ok (.istore_n 1, 1) := by decide +kernel
theorem dX12_known_26 : decode cX12_known 26 = .ok (.iload_n 1, 1) := by decide +kernel
theorem dX12_known_27 : decode cX12_known 27 = .ok (.aload_n 0, 1) := by decide +kernel
theorem dX12_known_28 : decode cX12_known 28 = .ok (.getfield 452, 3) := by decide +kernel
theorem dX12_known_31 : decode cX12_known 31 = .ok (.if_icmp .ge 19, 3) := by decide +kernel
theorem dX12_known_34 : decode cX12_known 34 = .ok (.aload_n 0, 1) := by decide +kernel
theorem dX12_known_35 : decode cX12_known 35 = .ok (.iload_n 1, 1) := by decide +kernel
theorem dX12_known_36 : decode cX12_known 36 = .ok (.invokevirtual 459, 3) := by decide +kernel
theorem dX12_known_39 : decode cX12_known 39 = .ok (.ifCond .eq 5, 3) := by decide +kernel
theorem dX12_known_42 : decode cX12_known 42 = .ok (.iconst (-1), 1) := by decide +kernel
theorem dX12_known_43 : decode cX12_known 43 = .ok (.ireturn, 1) := by decide +kernel
theorem dX12_known_44 : decode cX12_known 44 = .ok (.iinc 1 1, 3) := by decide +kernel
theorem dX12_known_47 : decode cX12_known 47 = .ok (.goto (-21), 3) := by decide +kernel
theorem dX12_known_50 : decode cX12_known 50 = .ok (.iconst 0, 1) := by decide +kernel
theorem dX12_known_51 : decode cX12_known 51 = .ok (.istore_n 1, 1) := by decide +kernel
theorem dX12_known_52 : decode cX12_known 52 = .ok (.iload_n 1, 1) := by decide +kernel
theorem dX12_known_53 : decode cX12_known 53 = .ok (.aload_n 0, 1) := by decide +kernel
theorem dX12_known_54 : decode cX12_known 54 = .ok (.getfield 229, 3) := by decide +kernel
theorem dX12_known_57 : decode cX12_known 57 = .ok (.if_icmp .ge 29, 3) := by decide +kernel
theorem dX12_known_60 : decode cX12_known 60 = .ok (.aload_n 0, 1) := by decide +kernel
theorem dX12_known_61 : decode cX12_known 61 = .ok (.getfield 120, 3) := by decide +kernel
theorem dX12_known_64 : decode cX12_known 64 = .ok (.bipush 8, 2) := by decide +kernel
theorem dX12_known_66 : decode cX12_known 66 = .ok (.aload_n 0, 1) := by decide +kernel
theorem dX12_known_67 : decode cX12_known 67 = .ok (.getfield 452, 3) := by decide +kernel
theorem dX12_known_70 : decode cX12_known 70 = .ok (.imul, 1) := by decide +kernel
theorem dX12_known_71 : decode cX12_known 71 = .ok (.iload_n 1, 1) := by decide +kernel
theorem dX12_known_72 : decode cX12_known 72 = .ok (.iadd, 1) := by decide +kernel
theorem dX12_known_73 : decode cX12_known 73 = .ok (.aload_n 0, 1) := by decide +kernel
theorem dX12_known_74 : decode cX12_known 74 = .ok (.getfield 29, 3) := by decide +kernel
theorem dX12_known_77 : decode cX12_known 77 = .ok (.iload_n 1, 1) := by decide +kernel
theorem dX12_known_78 : decode cX12_known 78 = .ok (.baload, 1) := by decide +kernel
theorem dX12_known_79 : decode cX12_known 79 = .ok (.bastore, 1) := by decide +kernel
theorem dX12_known_80 : decode cX12_known 80 = .ok (.iinc 1 1, 3) := by decide +kernel
theorem dX12_known_83 : decode cX12_known 83 = .ok (.goto (-31), 3) := by decide +kernel
theorem dX12_known_86 : decode cX12_known 86 = .ok (.aload_n 0, 1) := by decide +kernel
theorem dX12_known_87 : decode cX12_known 87 = .ok (.getfield 126, 3) := by decide +kernel
theorem dX12_known_90 : decode cX12_known 90 = .ok (.aload_n 0, 1) := by decide +kernel
theorem dX12_known_91 : decode cX12_known 91 = .ok (.getfield 452, 3) := by decide +kernel
theorem dX12_known_94 : decode cX12_known 94 = .ok (.aload_n 0, 1) := by decide +kernel
theorem dX12_known_95 : decode cX12_known 95 = .ok (.getfield 229, 3) := by decide +kernel
theorem dX12_known_98 : decode cX12_known 98 = .ok (.iastore, 1) := by decide +kernel
theorem dX12_known_99 : decode cX12_known 99 = .ok (.aload_n 0, 1) := by decide +kernel
theorem dX12_known_100 : decode cX12_known 100 = .ok (.iconst 0, 1) := by decide +kernel
theorem dX12_known_101 : decode cX12_known 101 = .ok (.putfield 229, 3) := by decide +kernel
theorem dX12_known_104 : decode cX12_known 104 = .ok (.aload_n 0, 1) := by decide +kernel
theorem dX12_known_105 : decode cX12_known 105 = .ok (.dup, 1) := by decide +kernel
theorem dX12_known_106 : decode cX12_known 106 = .ok (.getfield 452, 3) := by decide +kernel
theorem dX12_known_109 : decode cX12_known 109 = .ok (.iconst 1, 1) := by decide +kernel
theorem dX12_known_110 : decode cX12_known 110 = .ok (.iadd, 1) := by decide +kernel
theorem dX12_known_111 : decode cX12_known 111 = .ok (.putfield 452, 3) := by decide +kernel
theorem dX12_known_114 : decode cX12_known 114 = .ok (.aload_n 0, 1) := by decide +kernel
theorem dX12_known_115 : decode cX12_known 115 = .ok (.getfield 452, 3) := by decide +kernel
theorem dX12_known_118 : decode cX12_known 118 = .ok (.iconst 1, 1) := by decide +kernel
theorem dX12_known_119 : decode cX12_known 119 = .ok (.isub, 1) := by decide +kernel
theorem dX12_known_120 : decode cX12_known 120 = .ok (.ireturn, 1) := by decide +kernel
theorem dX12_isPaper_0 : decode cX12_isPaper 0 = .ok (.iload_n 0, 1) := by decide +kernel
theorem dX12_isPaper_1 : decode cX12_isPaper 1 = .ok (.iconst 0, 1) := by decide +kernel
theorem dX12_isPaper_2 : decode cX12_isPaper 2 = .ok (.bipush 29, 2) := by decide +kernel
theorem dX12_isPaper_4 : decode cX12_isPaper 4 = .ok (.invokestatic 196, 3) := by decide +kernel
theorem dX12_isPaper_7 : decode cX12_isPaper 7 = .ok (.ireturn, 1) := by decide +kernel
theorem dX12_read_0 : decode cX12_read 0 = .ok (.aload_n 0, 1) := by decide +kernel
theorem dX12_read_1 : decode cX12_read 1 = .ok (.iconst 0, 1) := by decide +kernel
theorem dX12_read_2 : decode cX12_read 2 = .ok (.putfield 180, 3) := by decide +kernel
theorem dX12_read_5 : decode cX12_read 5 = .ok (.iload_n 1, 1) := by decide +kernel
theorem dX12_read_6 : decode cX12_read 6 = .ok (.iconst 0, 1) := by decide +kernel
theorem dX12_read_7 : decode cX12_read 7 = .ok (.iconst 3, 1) := by decide +kernel
theorem dX12_read_8 : decode cX12_read 8 = .ok (.invokestatic 196, 3) := by decide +kernel
theorem dX12_read_11 : decode cX12_read 11 = .ok (.ifCond .eq 18, 3) := by decide +kernel
theorem dX12_read_14 : decode cX12_read 14 = .ok (.iload_n 2, 1) := by decide +kernel
theorem dX12_read_15 : decode cX12_read 15 = .ok (.invokestatic 462, 3) := by decide +kernel
theorem dX12_read_18 : decode cX12_read 18 = .ok (.ifCond .eq 11, 3) := by decide +kernel
theorem dX12_read_21 : decode cX12_read 21 = .ok (.aload_n 0, 1) := by decide +kernel
theorem dX12_read_22 : decode cX12_read 22 = .ok (.iconst 1, 1) := by decide +kernel
theorem dX12_read_23 : decode cX12_read 23 = .ok (.invokevirtual 455, 3) := by decide +kernel
theorem dX12_read_26 : decode cX12_read 26 = .ok (.ifCond .ne 5, 3) := by decide +kernel
theorem dX12_read_29 : decode cX12_read 29 = .ok (.iconst 0, 1) := by decide +kernel
theorem dX12_read_30 : decode cX12_read 30 = .ok (.ireturn, 1) := by decide +kernel
theorem dX12_read_31 : decode cX12_read 31 = .ok (.bipush 30, 2) := by decide +kernel
theorem dX12_read_33 : decode cX12_read 33 = .ok (.iload_n 1, 1) := by decide +kernel
theorem dX12_read_34 : decode cX12_read 34 = .ok (.imul, 1) := by decide +kernel
theorem dX12_read_35 : decode cX12_read 35 = .ok (.iload_n 2, 1) := by decide +kernel
theorem dX12_read_36 : decode cX12_read 36 = .ok (.iadd, 1) := by decide +kernel
theorem dX12_read_37 : decode cX12_read 37 = .ok (.istore_n 3, 1) := by decide +kernel
theorem dX12_read_38 : decode cX12_read 38 = .ok (.iconst 0, 1) := by decide +kernel
theorem dX12_read_39 : decode cX12_read 39 = .ok (.istore 4, 2) := by decide +kernel
theorem dX12_read_41 : decode cX12_read 41 = .ok (.iload 4, 2) := by decide +kernel
theorem dX12_read_43 : decode cX12_read 43 = .ok (.aload_n 0, 1) := by decide +kernel
theorem dX12_read_44 : decode cX12_read 44 = .ok (.getfield 229, 3) := by decide +kernel
theorem dX12_read_47 : decode cX12_read 47 = .ok (.if_icmp .ge 28, 3) := by decide +kernel
theorem dX12_read_50 : decode cX12_read 50 = .ok (.aload_n 0, 1) := by decide +kernel
theorem dX12_read_51 : decode cX12_read 51 = .ok (.getfield 123, 3) := by decide +kernel
theorem dX12_read_54 : decode cX12_read 54 = .ok (.bipush 8, 2) := by decide +kernel
theorem dX12_read_56 : decode cX12_read 56 = .ok (.iload_n 3, 1) := by decide +kernel
theorem dX12_read_57 : decode cX12_read 57 = .ok (.imul, 1) := by decide +kernel
theorem dX12_read_58 : decode cX12_read 58 = .ok (.iload 4, 2) := by decide +kernel
theorem dX12_read_60 : decode cX12_read 60 = .ok (.iadd, 1) := by decide +kernel
theorem dX12_read_61 : decode cX12_read 61 = .ok (.aload_n 0, 1) := by decide +kernel
theorem dX12_read_62 : decode cX12_read 62 = .ok (.getfield 29, 3) := by decide +kernel
theorem dX12_read_65 : decode cX12_read 65 = .ok (.iload 4, 2) := by decide +kernel
theorem dX12_read_67 : decode cX12_read 67 = .ok (.baload, 1) := by decide +kernel
theorem dX12_read_68 : decode cX12_read 68 = .ok (.bastore, 1) := by decide +kernel
theorem dX12_read_69 : decode cX12_read 69 = .ok (.iinc 4 1, 3) := by decide +kernel
theorem dX12_read_72 : decode cX12_read 72 = .ok (.goto (-31), 3) := by decide +kernel
theorem dX12_read_75 : decode cX12_read 75 = .ok (.aload_n 0, 1) := by decide +kernel
theorem dX12_read_76 : decode cX12_read 76 = .ok (.getfield 129, 3) := by decide +kernel
theorem dX12_read_79 : decode cX12_read 79 = .ok (.iload_n 3, 1) := by decide +kernel
theorem dX12_read_80 : decode cX12_read 80 = .ok (.aload_n 0, 1) := by decide +kernel
theorem dX12_read_81 : decode cX12_read 81 = .ok (.getfield 229, 3) := by decide +kernel
theorem dX12_read_84 : decode cX12_read 84 = .ok (.iastore, 1) := by decide +kernel
theorem dX12_read_85 : decode cX12_read 85 = .ok (.aload_n 0, 1) := by decide +kernel
theorem dX12_read_86 : decode cX12_read 86 = .ok (.iconst 0, 1) := by decide +kernel
theorem dX12_read_87 : decode cX12_read 87 = .ok (.putfield 229, 3) := by decide +kernel
theorem dX12_read_90 : decode cX12_read 90 = .ok (.iconst 1, 1) := by decide +kernel
theorem dX12_read_91 : decode cX12_read 91 = .ok (.ireturn, 1) := by decide +kernel
theorem dX12_limit_0 : decode cX12_limit 0 = .ok (.aload_n 0, 1) := by decide +kernel
theorem dX12_limit_1 : decode cX12_limit 1 = .ok (.iconst 0, 1) := by decide +kernel
theorem dX12_limit_2 : decode cX12_limit 2 = .ok (.putfield 180, 3) := by decide +kernel
theorem dX12_limit_5 : decode cX12_limit 5 = .ok (.iload_n 1, 1) := by decide +kernel
theorem dX12_limit_6 : decode cX12_limit 6 = .ok (.iconst 0, 1) := by decide +kernel
theorem dX12_limit_7 : decode cX12_limit 7 = .ok (.bipush 8, 2) := by decide +kernel
theorem dX12_limit_9 : decode cX12_limit 9 = .ok (.invokestatic 196, 3) := by decide +kernel
theorem dX12_limit_12 : decode cX12_limit 12 = .ok (.ifCond .ne 5, 3) := by decide +kernel
theorem dX12_limit_15 : decode cX12_limit 15 = .ok (.iconst 0, 1) := by decide +kernel
theorem dX12_limit_16 : decode cX12_limit 16 = .ok (.ireturn, 1) := by decide +kernel
theorem dX12_limit_17 : decode cX12_limit 17 = .ok (.aload_n 0, 1) := by decide +kernel
theorem dX12_limit_18 : decode cX12_limit 18 = .ok (.iload_n 1, 1) := by decide +kernel
theorem dX12_limit_19 : decode cX12_limit 19 = .ok (.putfield 132, 3) := by decide +kernel
theorem dX12_limit_22 : decode cX12_limit 22 = .ok (.iconst 1, 1) := by decide +kernel
theorem dX12_limit_23 : decode cX12_limit 23 = .ok (.ireturn, 1) := by decide +kernel
theorem dX12_farOf_0 : decode cX12_farOf 0 = .ok (.iconst 0, 1) := by decide +kernel
theorem dX12_farOf_1 : decode cX12_farOf 1 = .ok (.istore_n 3, 1) := by decide +kernel
theorem dX12_farOf_2 : decode cX12_farOf 2 = .ok (.iload_n 3, 1) := by decide +kernel
theorem dX12_farOf_3 : decode cX12_farOf 3 = .ok (.aload_n 0, 1) := by decide +kernel
theorem dX12_farOf_4 : decode cX12_farOf 4 = .ok (.getfield 129, 3) := by decide +kernel
theorem dX12_farOf_7 : decode cX12_farOf 7 = .ok (.iload_n 1, 1) := by decide +kernel
theorem dX12_farOf_8 : decode cX12_farOf 8 = .ok (.iaload, 1) := by decide +kernel
theorem dX12_farOf_9 : decode cX12_farOf 9 = .ok (.if_icmp .gt 181, 3) := by decide +kernel
theorem dX12_farOf_12 : decode cX12_farOf 12 = .ok (.iconst 0, 1) := by decide +kernel
theorem dX12_farOf_13 : decode cX12_farOf 13 = .ok (.istore 4, 2) := by decide +kernel
theorem dX12_farOf_15 : decode cX12_farOf 15 = .ok (.iload 4, 2) := by decide +kernel
theorem dX12_farOf_17 : decode cX12_farOf 17 = .ok (.aload_n 0, 1) := by decide +kernel
theorem dX12_farOf_18 : decode cX12_farOf 18 = .ok (.getfield 126, 3) := by decide +kernel
theorem dX12_farOf_21 : decode cX12_farOf 21 = .ok (.iload_n 2, 1) := by decide +kernel
theorem dX12_farOf_22 : decode cX12_farOf 22 = .ok (.iaload, 1) := by decide +kernel
theorem dX12_farOf_23 : decode cX12_farOf 23 = .ok (.if_icmp .gt 161, 3) := by decide +kernel
theorem dX12_farOf_26 : decode cX12_farOf 26 = .ok (.iload_n 3, 1) := by decide +kernel
theorem dX12_farOf_27 : decode cX12_farOf 27 = .ok (.ifCond .ne 8, 3) := by decide +kernel
theorem dX12_farOf_30 : decode cX12_farOf 30 = .ok (.iload 4, 2) := by decide +kernel
theorem dX12_farOf_32 : decode cX12_farOf 32 = .ok (.goto 4, 3) := by decide +kernel
theorem dX12_farOf_35 : decode cX12_farOf 35 = .ok (.iload_n 3, 1) := by decide +kernel
theorem dX12_farOf_36 : decode cX12_farOf 36 = .ok (.istore 5, 2) := by decide +kernel
theorem dX12_farOf_38 : decode cX12_farOf 38 = .ok (.iload_n 3, 1) := by decide +kernel
theorem dX12_farOf_39 : decode cX12_farOf 39 = .ok (.ifCond .le 125, 3) := by decide +kernel
theorem dX12_farOf_42 : decode cX12_farOf 42 = .ok (.iload 4, 2) := by decide +kernel
theorem dX12_farOf_44 : decode cX12_farOf 44 = .ok (.ifCond .le 120, 3) := by decide +kernel
theorem dX12_farOf_47 : decode cX12_farOf 47 = .ok (.aload_n 0, 1) := by decide +kernel
theorem dX12_farOf_48 : decode cX12_farOf 48 = .ok (.getfield 123, 3) := by decide +kernel
theorem dX12_farOf_51 : decode cX12_farOf 51 = .ok (.bipush 8, 2) := by decide +kernel
theorem dX12_farOf_53 : decode cX12_farOf 53 = .ok (.iload_n 1, 1) := by decide +kernel
theorem dX12_farOf_54 : decode cX12_farOf 54 = .ok (.imul, 1) := by decide +kernel
theorem dX12_farOf_55 : decode cX12_farOf 55 = .ok (.iload_n 3, 1) := by decide +kernel
theorem dX12_farOf_56 : decode cX12_farOf 56 = .ok (.iadd, 1) := by decide +kernel
theorem dX12_farOf_57 : decode cX12_farOf 57 = .ok (.iconst 1, 1) := by decide +kernel
theorem dX12_farOf_58 : decode cX12_farOf 58 = .ok (.isub, 1) := by decide +kernel
theorem dX12_farOf_59 : decode cX12_farOf 59 = .ok (.baload, 1) := by decide +kernel
theorem dX12_farOf_60 : decode cX12_farOf 60 = .ok (.istore 6, 2) := by decide +kernel
theorem dX12_farOf_62 : decode cX12_farOf 62 = .ok (.iload 6, 2) := by decide +kernel
theorem dX12_farOf_64 : decode cX12_farOf 64 = .ok (.bipush 46, 2) := by decide +kernel
theorem dX12_farOf_66 : decode cX12_farOf 66 = .ok (.if_icmp .eq 22, 3) := by decide +kernel
theorem dX12_farOf_69 : decode cX12_farOf 69 = .ok (.iload 6, 2) := by decide +kernel
theorem dX12_farOf_71 : decode cX12_farOf 71 = .ok (.aload_n 0, 1) := by decide +kernel
theorem dX12_farOf_72 : decode cX12_farOf 72 = .ok (.getfield 120, 3) := by decide +kernel
theorem dX12_farOf_75 : decode cX12_farOf 75 = .ok (.bipush 8, 2) := by decide +kernel
theorem dX12_farOf_77 : decode cX12_farOf 77 = .ok (.iload_n 2, 1) := by decide +kernel
theorem dX12_farOf_78 : decode cX12_farOf 78 = .ok (.imul, 1) := by decide +kernel
theorem dX12_farOf_79 : decode cX12_farOf 79 = .ok (.iload 4, 2) := by decide +kernel
theorem dX12_farOf_81 : decode cX12_farOf 81 = .ok (.iadd, 1) := by decide +kernel
theorem dX12_farOf_82 : decode cX12_farOf 82 = .ok (.iconst 1, 1) := by decide +kernel
theorem dX12_farOf_83 : decode cX12_farOf 83 = .ok (.isub, 1) := by decide +kernel
theorem dX12_farOf_84 : decode cX12_farOf 84 = .ok (.baload, 1) := by decide +kernel
theorem dX12_farOf_85 : decode cX12_farOf 85 = .ok (.if_icmp .ne 7, 3) := by decide +kernel
theorem dX12_farOf_88 : decode cX12_farOf 88 = .ok (.iconst 1, 1) := by decide +kernel
theorem dX12_farOf_89 : decode cX12_farOf 89 = .ok (.goto 4, 3) := by decide +kernel
theorem dX12_farOf_92 : decode cX12_farOf 92 = .ok (.iconst 0, 1) := by decide +kernel
theorem dX12_farOf_93 : decode cX12_farOf 93 = .ok (.istore 7, 2) := by decide +kernel
theorem dX12_farOf_95 : decode cX12_farOf 95 = .ok (.aload_n 0, 1) := by decide +kernel
theorem dX12_farOf_96 : decode cX12_farOf 96 = .ok (.getfield 135, 3) := by decide +kernel
theorem dX12_farOf_99 : decode cX12_farOf 99 = .ok (.bipush 9, 2) := by decide +kernel
theorem dX12_farOf_101 : decode cX12_farOf 101 = .ok (.iload_n 3, 1) := by decide +kernel
theorem dX12_farOf_102 : decode cX12_farOf 102 = .ok (.iconst 1, 1) := by decide +kernel
theorem dX12_farOf_103 : decode cX12_farOf 103 = .ok (.isub, 1) := by decide +kernel
theorem dX12_farOf_104 : decode cX12_farOf 104 = .ok (.imul, 1) := by decide +kernel
theorem dX12_farOf_105 : decode cX12_farOf 105 = .ok (.iload 4, 2) := by decide +kernel
theorem dX12_farOf_107 : decode cX12_farOf 107 = .ok (.iadd, 1) := by decide +kernel
theorem dX12_farOf_108 : decode cX12_farOf 108 = .ok (.iconst 1, 1) := by decide +kernel
theorem dX12_farOf_109 : decode cX12_farOf 109 = .ok (.isub, 1) := by decide +kernel
theorem dX12_farOf_110 : decode cX12_farOf 110 = .ok (.iaload, 1) := by decide +kernel
theorem dX12_farOf_111 : decode cX12_farOf 111 = .ok (.iload 7, 2) := by decide +kernel
theorem dX12_farOf_113 : decode cX12_farOf 113 = .ok (.ifCond .eq 7, 3) := by decide +kernel
theorem dX12_farOf_116 : decode cX12_farOf 116 = .ok (.iconst 0, 1) := by decide +kernel
theorem dX12_farOf_117 : decode cX12_farOf 117 = .ok (.goto 4, 3) := by decide +kernel
theorem dX12_farOf_120 : decode cX12_farOf 120 = .ok (.iconst 1, 1) := by decide +kernel
theorem dX12_farOf_121 : decode cX12_farOf 121 = .ok (.iadd, 1) := by decide +kernel
theorem dX12_farOf_122 : decode cX12_farOf 122 = .ok (.istore 5, 2) := by decide +kernel
theorem dX12_farOf_124 : decode cX12_farOf 124 = .ok (.iload 5, 2) := by decide +kernel
theorem dX12_farOf_126 : decode cX12_farOf 126 = .ok (.iconst 1, 1) := by decide +kernel
theorem dX12_farOf_127 : decode cX12_farOf 127 = .ok (.aload_n 0, 1) := by decide +kernel
theorem dX12_farOf_128 : decode cX12_farOf 128 = .ok (.getfield 135, 3) := by decide +kernel
theorem dX12_farOf_131 : decode cX12_farOf 131 = .ok (.bipush 9, 2) := by decide +kernel
theorem dX12_farOf_133 : decode cX12_farOf 133 = .ok (.iload_n 3, 1) := by decide +kernel
theorem dX12_farOf_134 : decode cX12_farOf 134 = .ok (.iconst 1, 1) := by decide +kernel
theorem dX12_farOf_135 : decode cX12_farOf 135 = .ok (.isub, 1) := by decide +kernel
theorem dX12_farOf_136 : decode cX12_farOf 136 = .ok (.imul, 1) := by decide +kernel
theorem dX12_farOf_137 : decode cX12_farOf 137 = .ok (.iload 4, 2) := by decide +kernel
theorem dX12_farOf_139 : decode cX12_farOf 139 = .ok (.iadd, 1) := by decide +kernel
theorem dX12_farOf_140 : decode cX12_farOf 140 = .ok (.iaload, 1) := by decide +kernel
theorem dX12_farOf_141 : decode cX12_farOf 141 = .ok (.aload_n 0, 1) := by decide +kernel
theorem dX12_farOf_142 : decode cX12_farOf 142 = .ok (.getfield 135, 3) := by decide +kernel
theorem dX12_farOf_145 : decode cX12_farOf 145 = .ok (.bipush 9, 2) := by decide +kernel
theorem dX12_farOf_147 : decode cX12_farOf 147 = .ok (.iload_n 3, 1) := by decide +kernel
theorem dX12_farOf_148 : decode cX12_farOf 148 = .ok (.imul, 1) := by decide +kernel
theorem dX12_farOf_149 : decode cX12_farOf 149 = .ok (.iload 4, 2) := by decide +kernel
theorem dX12_farOf_151 : decode cX12_farOf 151 = .ok (.iadd, 1) := by decide +kernel
theorem dX12_farOf_152 : decode cX12_farOf 152 = .ok (.iconst 1, 1) := by decide +kernel
theorem dX12_farOf_153 : decode cX12_farOf 153 = .ok (.isub, 1) := by decide +kernel
theorem dX12_farOf_154 : decode cX12_farOf 154 = .ok (.iaload, 1) := by decide +kernel
theorem dX12_farOf_155 : decode cX12_farOf 155 = .ok (.invokestatic 168, 3) := by decide +kernel
theorem dX12_farOf_158 : decode cX12_farOf 158 = .ok (.iadd, 1) := by decide +kernel
theorem dX12_farOf_159 : decode cX12_farOf 159 = .ok (.invokestatic 168, 3) := by decide +kernel
theorem dX12_farOf_162 : decode cX12_farOf 162 = .ok (.istore 5, 2) := by decide +kernel
theorem dX12_farOf_164 : decode cX12_farOf 164 = .ok (.aload_n 0, 1) := by decide +kernel
theorem dX12_farOf_165 : decode cX12_farOf 165 = .ok (.getfield 135, 3) := by decide +kernel
theorem dX12_farOf_168 : decode cX12_farOf 168 = .ok (.bipush 9, 2) := by decide +kernel
theorem dX12_farOf_170 : decode cX12_farOf 170 = .ok (.iload_n 3, 1) := by decide +kernel
theorem dX12_farOf_171 : decode cX12_farOf 171 = .ok (.imul, 1) := by decide +kernel
theorem dX12_farOf_172 : decode cX12_farOf 172 = .ok (.iload 4, 2) := by decide +kernel
theorem dX12_farOf_174 : decode cX12_farOf 174 = .ok (.iadd, 1) := by decide +kernel
theorem dX12_farOf_175 : decode cX12_farOf 175 = .ok (.iload 5, 2) := by decide +kernel
theorem dX12_farOf_177 : decode cX12_farOf 177 = .ok (.iastore, 1) := by decide +kernel
theorem dX12_farOf_178 : decode cX12_farOf 178 = .ok (.iinc 4 1, 3) := by decide +kernel
theorem dX12_farOf_181 : decode cX12_farOf 181 = .ok (.goto (-166), 3) := by decide +kernel
theorem dX12_farOf_184 : decode cX12_farOf 184 = .ok (.iinc 3 1, 3) := by decide +kernel
theorem dX12_farOf_187 : decode cX12_farOf 187 = .ok (.goto (-185), 3) := by decide +kernel
theorem dX12_farOf_190 : decode cX12_farOf 190 = .ok (.aload_n 0, 1) := by decide +kernel
theorem dX12_farOf_191 : decode cX12_farOf 191 = .ok (.getfield 135, 3) := by decide +kernel
theorem dX12_farOf_194 : decode cX12_farOf 194 = .ok (.bipush 9, 2) := by decide +kernel
theorem dX12_farOf_196 : decode cX12_farOf 196 = .ok (.aload_n 0, 1) := by decide +kernel
theorem dX12_farOf_197 : decode cX12_farOf 197 = .ok (.getfield 129, 3) := by decide +kernel
theorem dX12_farOf_200 : decode cX12_farOf 200 = .ok (.iload_n 1, 1) := by decide +kernel
theorem dX12_farOf_201 : decode cX12_farOf 201 = .ok (.iaload, 1) := by decide +kernel
theorem dX12_farOf_202 : decode cX12_farOf 202 = .ok (.imul, 1) := by decide +kernel
theorem dX12_farOf_203 : decode cX12_farOf 203 = .ok (.aload_n 0, 1) := by decide +kernel
theorem dX12_farOf_204 : decode cX12_farOf 204 = .ok (.getfield 126, 3) := by decide +kernel
theorem dX12_farOf_207 : decode cX12_farOf 207 = .ok (.iload_n 2, 1) := by decide +kernel
theorem dX12_farOf_208 : decode cX12_farOf 208 = .ok (.iaload, 1) := by decide +kernel
theorem dX12_farOf_209 : decode cX12_farOf 209 = .ok (.iadd, 1) := by decide +kernel
theorem dX12_farOf_210 : decode cX12_farOf 210 = .ok (.iaload, 1) := by decide +kernel
theorem dX12_farOf_211 : decode cX12_farOf 211 = .ok (.ireturn, 1) := by decide +kernel
theorem dX12_isRead_0 : decode cX12_isRead 0 = .ok (.iload_n 1, 1) := by decide +kernel
theorem dX12_isRead_1 : decode cX12_isRead 1 = .ok (.iconst 0, 1) := by decide +kernel
theorem dX12_isRead_2 : decode cX12_isRead 2 = .ok (.iconst 3, 1) := by decide +kernel
theorem dX12_isRead_3 : decode cX12_isRead 3 = .ok (.invokestatic 196, 3) := by decide +kernel
theorem dX12_isRead_6 : decode cX12_isRead 6 = .ok (.ifCond .eq 28, 3) := by decide +kernel
theorem dX12_isRead_9 : decode cX12_isRead 9 = .ok (.iload_n 2, 1) := by decide +kernel
theorem dX12_isRead_10 : decode cX12_isRead 10 = .ok (.invokestatic 462, 3) := by decide +kernel
theorem dX12_isRead_13 : decode cX12_isRead 13 = .ok (.ifCond .eq 21, 3) := by decide +kernel
theorem dX12_isRead_16 : decode cX12_isRead 16 = .ok (.aload_n 0, 1) := by decide +kernel
theorem dX12_isRead_17 : decode cX12_isRead 17 = .ok (.getfield 129, 3) := by decide +kernel
theorem dX12_isRead_20 : decode cX12_isRead 20 = .ok (.bipush 30, 2) := by decide +kernel
theorem dX12_isRead_22 : decode cX12_isRead 22 = .ok (.iload_n 1, 1) := by decide +kernel
theorem dX12_isRead_23 : decode cX12_isRead 23 = .ok (.imul, 1) := by decide +kernel
theorem dX12_isRead_24 : decode cX12_isRead 24 = .ok (.iload_n 2, 1) := by decide +kernel
theorem dX12_isRead_25 : decode cX12_isRead 25 = .ok (.iadd, 1) := by decide +kernel
theorem dX12_isRead_26 : decode cX12_isRead 26 = .ok (.iaload, 1) := by decide +kernel
theorem dX12_isRead_27 : decode cX12_isRead 27 = .ok (.ifCond .le 7, 3) := by decide +kernel
theorem dX12_isRead_30 : decode cX12_isRead 30 = .ok (.iconst 1, 1) := by decide +kernel
theorem dX12_isRead_31 : decode cX12_isRead 31 = .ok (.goto 4, 3) := by decide +kernel
theorem dX12_isRead_34 : decode cX12_isRead 34 = .ok (.iconst 0, 1) := by decide +kernel
theorem dX12_isRead_35 : decode cX12_isRead 35 = .ok (.ireturn, 1) := by decide +kernel
theorem dX12_far_0 : decode cX12_far 0 = .ok (.aload_n 0, 1) := by decide +kernel
theorem dX12_far_1 : decode cX12_far 1 = .ok (.iconst 0, 1) := by decide +kernel
theorem dX12_far_2 : decode cX12_far 2 = .ok (.putfield 180, 3) := by decide +kernel
theorem dX12_far_5 : decode cX12_far 5 = .ok (.aload_n 0, 1) := by decide +kernel
theorem dX12_far_6 : decode cX12_far 6 = .ok (.iload_n 1, 1) := by decide +kernel
theorem dX12_far_7 : decode cX12_far 7 = .ok (.iload_n 2, 1) := by decide +kernel
theorem dX12_far_8 : decode cX12_far 8 = .ok (.invokevirtual 465, 3) := by decide +kernel
theorem dX12_far_11 : decode cX12_far 11 = .ok (.ifCond .eq 31, 3) := by decide +kernel
theorem dX12_far_14 : decode cX12_far 14 = .ok (.iload_n 3, 1) := by decide +kernel
theorem dX12_far_15 : decode cX12_far 15 = .ok (.iconst 0, 1) := by decide +kernel
theorem dX12_far_16 : decode cX12_far 16 = .ok (.aload_n 0, 1) := by decide +kernel
theorem dX12_far_17 : decode cX12_far 17 = .ok (.getfield 452, 3) := by decide +kernel
theorem dX12_far_20 : decode cX12_far 20 = .ok (.iconst 1, 1) := by decide +kernel
theorem dX12_far_21 : decode cX12_far 21 = .ok (.isub, 1) := by decide +kernel
theorem dX12_far_22 : decode cX12_far 22 = .ok (.invokestatic 196, 3) := by decide +kernel
theorem dX12_far_25 : decode cX12_far 25 = .ok (.ifCond .eq 17, 3) := by decide +kernel
theorem dX12_far_28 : decode cX12_far 28 = .ok (.aload_n 0, 1) := by decide +kernel
theorem dX12_far_29 : decode cX12_far 29 = .ok (.bipush 30, 2) := by decide +kernel
theorem dX12_far_31 : decode cX12_far 31 = .ok (.iload_n 1, 1) := by decide +kernel
theorem dX12_far_32 : decode cX12_far 32 = .ok (.imul, 1) := by decide +kernel
theorem dX12_far_33 : decode cX12_far 33 = .ok (.iload_n 2, 1) := by decide +kernel
theorem dX12_far_34 : decode cX12_far 34 = .ok (.iadd, 1) := by decide +kernel
theorem dX12_far_35 : decode cX12_far 35 = .ok (.iload_n 3, 1) := by decide +kernel
theorem dX12_far_36 : decode cX12_far 36 = .ok (.invokevirtual 468, 3) := by decide +kernel
theorem dX12_far_39 : decode cX12_far 39 = .ok (.goto 4, 3) := by decide +kernel
theorem dX12_far_42 : decode cX12_far 42 = .ok (.iconst (-1), 1) := by decide +kernel
theorem dX12_far_43 : decode cX12_far 43 = .ok (.ireturn, 1) := by decide +kernel
theorem dX12_goesOf_0 : decode cX12_goesOf 0 = .ok (.aload_n 0, 1) := by decide +kernel
theorem dX12_goesOf_1 : decode cX12_goesOf 1 = .ok (.getfield 132, 3) := by decide +kernel
theorem dX12_goesOf_4 : decode cX12_goesOf 4 = .ok (.istore_n 2, 1) := by decide +kernel
theorem dX12_goesOf_5 : decode cX12_goesOf 5 = .ok (.iconst 0, 1) := by decide +kernel
theorem dX12_goesOf_6 : decode cX12_goesOf 6 = .ok (.istore_n 3, 1) := by decide +kernel
theorem dX12_goesOf_7 : decode cX12_goesOf 7 = .ok (.iload_n 3, 1) := by decide +kernel
theorem dX12_goesOf_8 : decode cX12_goesOf 8 = .ok (.aload_n 0, 1) := by decide +kernel
theorem dX12_goesOf_9 : decode cX12_goesOf 9 = .ok (.getfield 452, 3) := by decide +kernel
theorem dX12_goesOf_12 : decode cX12_goesOf 12 = .ok (.if_icmp .ge 20, 3) := by decide +kernel
theorem dX12_goesOf_15 : decode cX12_goesOf 15 = .ok (.iload_n 2, 1) := by decide +kernel
theorem dX12_goesOf_16 : decode cX12_goesOf 16 = .ok (.aload_n 0, 1) := by decide +kernel
theorem dX12_goesOf_17 : decode cX12_goesOf 17 = .ok (.iload_n 1, 1) := by decide +kernel
theorem dX12_goesOf_18 : decode cX12_goesOf 18 = .ok (.iload_n 3, 1) := by decide +kernel
theorem dX12_goesOf_19 : decode cX12_goesOf 19 = .ok (.invokevirtual 468, 3) := by decide +kernel
theorem dX12_goesOf_22 : decode cX12_goesOf 22 = .ok (.invokestatic 168, 3) := by decide +kernel
theorem dX12_goesOf_25 : decode cX12_goesOf 25 = .ok (.istore_n 2, 1) := by decide +kernel
theorem dX12_goesOf_26 : decode cX12_goesOf 26 = .ok (.iinc 3 1, 3) := by decide +kernel
theorem dX12_goesOf_29 : decode cX12_goesOf 29 = .ok (.goto (-22), 3) := by decide +kernel
theorem dX12_goesOf_32 : decode cX12_goesOf 32 = .ok (.iconst 0, 1) := by decide +kernel
theorem dX12_goesOf_33 : decode cX12_goesOf 33 = .ok (.istore_n 3, 1) := by decide +kernel
theorem dX12_goesOf_34 : decode cX12_goesOf 34 = .ok (.iconst 0, 1) := by decide +kernel
theorem dX12_goesOf_35 : decode cX12_goesOf 35 = .ok (.istore 4, 2) := by decide +kernel
theorem dX12_goesOf_37 : decode cX12_goesOf 37 = .ok (.iload 4, 2) := by decide +kernel
theorem dX12_goesOf_39 : decode cX12_goesOf 39 = .ok (.aload_n 0, 1) := by decide +kernel
theorem dX12_goesOf_40 : decode cX12_goesOf 40 = .ok (.getfield 452, 3) := by decide +kernel
theorem dX12_goesOf_43 : decode cX12_goesOf 43 = .ok (.if_icmp .ge 31, 3) := by decide +kernel
theorem dX12_goesOf_46 : decode cX12_goesOf 46 = .ok (.iload_n 3, 1) := by decide +kernel
theorem dX12_goesOf_47 : decode cX12_goesOf 47 = .ok (.aload_n 0, 1) := by decide +kernel
theorem dX12_goesOf_48 : decode cX12_goesOf 48 = .ok (.iload_n 1, 1) := by decide +kernel
theorem dX12_goesOf_49 : decode cX12_goesOf 49 = .ok (.iload 4, 2) := by decide +kernel
theorem dX12_goesOf_51 : decode cX12_goesOf 51 = .ok (.invokevirtual 468, 3) := by decide +kernel
theorem dX12_goesOf_54 : decode cX12_goesOf 54 = .ok (.iload_n 2, 1) := by decide +kernel
theorem dX12_goesOf_55 : decode cX12_goesOf 55 = .ok (.if_icmp .ne 10, 3) := by decide +kernel
theorem dX12_goesOf_58 : decode cX12_goesOf 58 = .ok (.iconst 1, 1) := by decide +kernel
theorem dX12_goesOf_59 : decode cX12_goesOf 59 = .ok (.iload 4, 2) := by decide +kernel
theorem dX12_goesOf_61 : decode cX12_goesOf 61 = .ok (.ishl, 1) := by decide +kernel
theorem dX12_goesOf_62 : decode cX12_goesOf 62 = .ok (.goto 4, 3) := by decide +kernel
theorem dX12_goesOf_65 : decode cX12_goesOf 65 = .ok (.iconst 0, 1) := by decide +kernel
theorem dX12_goesOf_66 : decode cX12_goesOf 66 = .ok (.ior, 1) := by decide +kernel
theorem dX12_goesOf_67 : decode cX12_goesOf 67 = .ok (.istore_n 3, 1) := by decide +kernel
theorem dX12_goesOf_68 : decode cX12_goesOf 68 = .ok (.iinc 4 1, 3) := by decide +kernel
theorem dX12_goesOf_71 : decode cX12_goesOf 71 = .ok (.goto (-34), 3) := by decide +kernel
theorem dX12_goesOf_74 : decode cX12_goesOf 74 = .ok (.iload_n 3, 1) := by decide +kernel
theorem dX12_goesOf_75 : decode cX12_goesOf 75 = .ok (.ireturn, 1) := by decide +kernel
theorem dX12_goes_0 : decode cX12_goes 0 = .ok (.aload_n 0, 1) := by decide +kernel
theorem dX12_goes_1 : decode cX12_goes 1 = .ok (.iconst 0, 1) := by decide +kernel
theorem dX12_goes_2 : decode cX12_goes 2 = .ok (.putfield 180, 3) := by decide +kernel
theorem dX12_goes_5 : decode cX12_goes 5 = .ok (.aload_n 0, 1) := by decide +kernel
theorem dX12_goes_6 : decode cX12_goes 6 = .ok (.iload_n 1, 1) := by decide +kernel
theorem dX12_goes_7 : decode cX12_goes 7 = .ok (.iload_n 2, 1) := by decide +kernel
theorem dX12_goes_8 : decode cX12_goes 8 = .ok (.invokevirtual 465, 3) := by decide +kernel
theorem dX12_goes_11 : decode cX12_goes 11 = .ok (.ifCond .eq 16, 3) := by decide +kernel
theorem dX12_goes_14 : decode cX12_goes 14 = .ok (.aload_n 0, 1) := by decide +kernel
theorem dX12_goes_15 : decode cX12_goes 15 = .ok (.bipush 30, 2) := by decide +kernel
theorem dX12_goes_17 : decode cX12_goes 17 = .ok (.iload_n 1, 1) := by decide +kernel
theorem dX12_goes_18 : decode cX12_goes 18 = .ok (.imul, 1) := by decide +kernel
theorem dX12_goes_19 : decode cX12_goes 19 = .ok (.iload_n 2, 1) := by decide +kernel
theorem dX12_goes_20 : decode cX12_goes 20 = .ok (.iadd, 1) := by decide +kernel
theorem dX12_goes_21 : decode cX12_goes 21 = .ok (.invokevirtual 471, 3) := by decide +kernel
theorem dX12_goes_24 : decode cX12_goes 24 = .ok (.goto 4, 3) := by decide +kernel
theorem dX12_goes_27 : decode cX12_goes 27 = .ok (.iconst (-1), 1) := by decide +kernel
theorem dX12_goes_28 : decode cX12_goes 28 = .ok (.ireturn, 1) := by decide +kernel
theorem dX12_isAnyRead_0 : decode cX12_isAnyRead 0 = .ok (.iconst 0, 1) := by decide +kernel
theorem dX12_isAnyRead_1 : decode cX12_isAnyRead 1 = .ok (.istore_n 2, 1) := by decide +kernel
theorem dX12_isAnyRead_2 : decode cX12_isAnyRead 2 = .ok (.iload_n 2, 1) := by decide +kernel
theorem dX12_isAnyRead_3 : decode cX12_isAnyRead 3 = .ok (.iconst 4, 1) := by decide +kernel
theorem dX12_isAnyRead_4 : decode cX12_isAnyRead 4 = .ok (.if_icmp .ge 20, 3) := by decide +kernel
theorem dX12_isAnyRead_7 : decode cX12_isAnyRead 7 = .ok (.aload_n 0, 1) := by decide +kernel
theorem dX12_isAnyRead_8 : decode cX12_isAnyRead 8 = .ok (.iload_n 2, 1) := by decide +kernel
theorem dX12_isAnyRead_9 : decode cX12_isAnyRead 9 = .ok (.iload_n 1, 1) := by decide +kernel
theorem dX12_isAnyRead_10 : decode cX12_isAnyRead 10 = .ok (.invokevirtual 465, 3) := by decide +kernel
theorem dX12_isAnyRead_13 : decode cX12_isAnyRead 13 = .ok (.ifCond .eq 5, 3) := by decide +kernel
theorem dX12_isAnyRead_16 : decode cX12_isAnyRead 16 = .ok (.iconst 1, 1) := by decide +kernel
theorem dX12_isAnyRead_17 : decode cX12_isAnyRead 17 = .ok (.ireturn, 1) := by decide +kernel
theorem dX12_isAnyRead_18 : decode cX12_isAnyRead 18 = .ok (.iinc 2 1, 3) := by decide +kernel
theorem dX12_isAnyRead_21 : decode cX12_isAnyRead 21 = .ok (.goto (-19), 3) := by decide +kernel
theorem dX12_isAnyRead_24 : decode cX12_isAnyRead 24 = .ok (.iconst 0, 1) := by decide +kernel
theorem dX12_isAnyRead_25 : decode cX12_isAnyRead 25 = .ok (.ireturn, 1) := by decide +kernel
theorem dX12_agreesOn_0 : decode cX12_agreesOn 0 = .ok (.iconst (-1), 1) := by decide +kernel
theorem dX12_agreesOn_1 : decode cX12_agreesOn 1 = .ok (.istore_n 2, 1) := by decide +kernel
theorem dX12_agreesOn_2 : decode cX12_agreesOn 2 = .ok (.iconst 0, 1) := by decide +kernel
theorem dX12_agreesOn_3 : decode cX12_agreesOn 3 = .ok (.istore_n 3, 1) := by decide +kernel
theorem dX12_agreesOn_4 : decode cX12_agreesOn 4 = .ok (.iload_n 3, 1) := by decide +kernel
theorem dX12_agreesOn_5 : decode cX12_agreesOn 5 = .ok (.iconst 4, 1) := by decide +kernel
theorem dX12_agreesOn_6 : decode cX12_agreesOn 6 = .ok (.if_icmp .ge 58, 3) := by decide +kernel
theorem dX12_agreesOn_9 : decode cX12_agreesOn 9 = .ok (.aload_n 0, 1) := by decide +kernel
theorem dX12_agreesOn_10 : decode cX12_agreesOn 10 = .ok (.iload_n 3, 1) := by decide +kernel
theorem dX12_agreesOn_11 : decode cX12_agreesOn 11 = .ok (.iload_n 1, 1) := by decide +kernel
theorem dX12_agreesOn_12 : decode cX12_agreesOn 12 = .ok (.invokevirtual 465, 3) := by decide +kernel
theorem dX12_agreesOn_15 : decode cX12_agreesOn 15 = .ok (.ifCond .ne 6, 3) := by decide +kernel
theorem dX12_agreesOn_18 : decode cX12_agreesOn 18 = .ok (.goto 40, 3) := by decide +kernel
theorem dX12_agreesOn_21 : decode cX12_agreesOn 21 = .ok (.aload_n 0, 1) := by decide +kernel
theorem dX12_agreesOn_22 : decode cX12_agreesOn 22 = .ok (.bipush 30, 2) := by decide +kernel
theorem dX12_agreesOn_24 : decode cX12_agreesOn 24 = .ok (.iload_n 3, 1) := by decide +kernel
theorem dX12_agreesOn_25 : decode cX12_agreesOn 25 = .ok (.imul, 1) := by decide +kernel
theorem dX12_agreesOn_26 : decode cX12_agreesOn 26 = .ok (.iload_n 1, 1) := by decide +kernel
theorem dX12_agreesOn_27 : decode cX12_agreesOn 27 = .ok (.iadd, 1) := by decide +kernel
theorem dX12_agreesOn_28 : decode cX12_agreesOn 28 = .ok (.invokevirtual 471, 3) := by decide +kernel
theorem dX12_agreesOn_31 : decode cX12_agreesOn 31 = .ok (.istore 4, 2) := by decide +kernel
theorem dX12_agreesOn_33 : decode cX12_agreesOn 33 = .ok (.iload 4, 2) := by decide +kernel
theorem dX12_agreesOn_35 : decode cX12_agreesOn 35 = .ok (.invokestatic 183, 3) := by decide +kernel
theorem dX12_agreesOn_38 : decode cX12_agreesOn 38 = .ok (.iconst 1, 1) := by decide +kernel
theorem dX12_agreesOn_39 : decode cX12_agreesOn 39 = .ok (.if_icmp .ne 14, 3) := by decide +kernel
theorem dX12_agreesOn_42 : decode cX12_agreesOn 42 = .ok (.iload_n 2, 1) := by decide +kernel
theorem dX12_agreesOn_43 : decode cX12_agreesOn 43 = .ok (.iconst (-1), 1) := by decide +kernel
theorem dX12_agreesOn_44 : decode cX12_agreesOn 44 = .ok (.if_icmp .eq 11, 3) := by decide +kernel
theorem dX12_agreesOn_47 : decode cX12_agreesOn 47 = .ok (.iload_n 2, 1) := by decide +kernel
theorem dX12_agreesOn_48 : decode cX12_agreesOn 48 = .ok (.iload 4, 2) := by decide +kernel
theorem dX12_agreesOn_50 : decode cX12_agreesOn 50 = .ok (.if_icmp .eq 5, 3) := by decide +kernel
theorem dX12_agreesOn_53 : decode cX12_agreesOn 53 = .ok (.iconst (-1), 1) := by decide +kernel
theorem dX12_agreesOn_54 : decode cX12_agreesOn 54 = .ok (.ireturn, 1) := by decide +kernel
theorem dX12_agreesOn_55 : decode cX12_agreesOn 55 = .ok (.iload 4, 2) := by decide +kernel
theorem dX12_agreesOn_57 : decode cX12_agreesOn 57 = .ok (.istore_n 2, 1) := by decide +kernel
theorem dX12_agreesOn_58 : decode cX12_agreesOn 58 = .ok (.iinc 3 1, 3) := by decide +kernel
theorem dX12_agreesOn_61 : decode cX12_agreesOn 61 = .ok (.goto (-57), 3) := by decide +kernel
theorem dX12_agreesOn_64 : decode cX12_agreesOn 64 = .ok (.iload_n 2, 1) := by decide +kernel
theorem dX12_agreesOn_65 : decode cX12_agreesOn 65 = .ok (.iconst (-1), 1) := by decide +kernel
theorem dX12_agreesOn_66 : decode cX12_agreesOn 66 = .ok (.if_icmp .ne 7, 3) := by decide +kernel
theorem dX12_agreesOn_69 : decode cX12_agreesOn 69 = .ok (.iconst (-1), 1) := by decide +kernel
theorem dX12_agreesOn_70 : decode cX12_agreesOn 70 = .ok (.goto 7, 3) := by decide +kernel
theorem dX12_agreesOn_73 : decode cX12_agreesOn 73 = .ok (.iload_n 2, 1) := by decide +kernel
theorem dX12_agreesOn_74 : decode cX12_agreesOn 74 = .ok (.invokestatic 474, 3) := by decide +kernel
theorem dX12_agreesOn_77 : decode cX12_agreesOn 77 = .ok (.ireturn, 1) := by decide +kernel
theorem dX12_agrees_0 : decode cX12_agrees 0 = .ok (.aload_n 0, 1) := by decide +kernel
theorem dX12_agrees_1 : decode cX12_agrees 1 = .ok (.iconst 0, 1) := by decide +kernel
theorem dX12_agrees_2 : decode cX12_agrees 2 = .ok (.putfield 180, 3) := by decide +kernel
theorem dX12_agrees_5 : decode cX12_agrees 5 = .ok (.iload_n 1, 1) := by decide +kernel
theorem dX12_agrees_6 : decode cX12_agrees 6 = .ok (.invokestatic 462, 3) := by decide +kernel
theorem dX12_agrees_9 : decode cX12_agrees 9 = .ok (.ifCond .eq 11, 3) := by decide +kernel
theorem dX12_agrees_12 : decode cX12_agrees 12 = .ok (.aload_n 0, 1) := by decide +kernel
theorem dX12_agrees_13 : decode cX12_agrees 13 = .ok (.iload_n 1, 1) := by decide +kernel
theorem dX12_agrees_14 : decode cX12_agrees 14 = .ok (.invokevirtual 477, 3) := by decide +kernel
theorem dX12_agrees_17 : decode cX12_agrees 17 = .ok (.goto 4, 3) := by decide +kernel
theorem dX12_agrees_20 : decode cX12_agrees 20 = .ok (.iconst (-1), 1) := by decide +kernel
theorem dX12_agrees_21 : decode cX12_agrees 21 = .ok (.ireturn, 1) := by decide +kernel
theorem dX12_areSame_0 : decode cX12_areSame 0 = .ok (.aload_n 0, 1) := by decide +kernel
theorem dX12_areSame_1 : decode cX12_areSame 1 = .ok (.getfield 129, 3) := by decide +kernel
theorem dX12_areSame_4 : decode cX12_areSame 4 = .ok (.iload_n 1, 1) := by decide +kernel
theorem dX12_areSame_5 : decode cX12_areSame 5 = .ok (.iaload, 1) := by decide +kernel
theorem dX12_areSame_6 : decode cX12_areSame 6 = .ok (.aload_n 0, 1) := by decide +kernel
theorem dX12_areSame_7 : decode cX12_areSame 7 = .ok (.getfield 129, 3) := by decide +kernel
theorem dX12_areSame_10 : decode cX12_areSame 10 = .ok (.iload_n 2, 1) := by decide +kernel
theorem dX12_areSame_11 : decode cX12_areSame 11 = .ok (.iaload, 1) := by decide +kernel
theorem dX12_areSame_12 : decode cX12_areSame 12 = .ok (.if_icmp .eq 5, 3) := by decide +kernel
theorem dX12_areSame_15 : decode cX12_areSame 15 = .ok (.iconst 0, 1) := by decide +kernel
theorem dX12_areSame_16 : decode cX12_areSame 16 = .ok (.ireturn, 1) := by decide +kernel
theorem dX12_areSame_17 : decode cX12_areSame 17 = .ok (.iconst 0, 1) := by decide +kernel
theorem dX12_areSame_18 : decode cX12_areSame 18 = .ok (.istore_n 3, 1) := by decide +kernel
theorem dX12_areSame_19 : decode cX12_areSame 19 = .ok (.iload_n 3, 1) := by decide +kernel
theorem dX12_areSame_20 : decode cX12_areSame 20 = .ok (.aload_n 0, 1) := by decide +kernel
theorem dX12_areSame_21 : decode cX12_areSame 21 = .ok (.getfield 129, 3) := by decide +kernel
theorem dX12_areSame_24 : decode cX12_areSame 24 = .ok (.iload_n 1, 1) := by decide +kernel
theorem dX12_areSame_25 : decode cX12_areSame 25 = .ok (.iaload, 1) := by decide +kernel
theorem dX12_areSame_26 : decode cX12_areSame 26 = .ok (.if_icmp .ge 36, 3) := by decide +kernel
theorem dX12_areSame_29 : decode cX12_areSame 29 = .ok (.aload_n 0, 1) := by decide +kernel
theorem dX12_areSame_30 : decode cX12_areSame 30 = .ok (.getfield 123, 3) := by decide +kernel
theorem dX12_areSame_33 : decode cX12_areSame 33 = .ok (.bipush 8, 2) := by decide +kernel
theorem dX12_areSame_35 : decode cX12_areSame 35 = .ok (.iload_n 1, 1) := by decide +kernel
theorem dX12_areSame_36 : decode cX12_areSame 36 = .ok (.imul, 1) := by decide +kernel
theorem dX12_areSame_37 : decode cX12_areSame 37 = .ok (.iload_n 3, 1) := by decide +kernel
theorem dX12_areSame_38 : decode cX12_areSame 38 = .ok (.iadd, 1) := by decide +kernel
theorem dX12_areSame_39 : decode cX12_areSame 39 = .ok (.baload, 1) := by decide +kernel
theorem dX12_areSame_40 : decode cX12_areSame 40 = .ok (.aload_n 0, 1) := by decide +kernel
theorem dX12_areSame_41 : decode cX12_areSame 41 = .ok (.getfield 123, 3) := by decide +kernel
theorem dX12_areSame_44 : decode cX12_areSame 44 = .ok (.bipush 8, 2) := by decide +kernel
theorem dX12_areSame_46 : decode cX12_areSame 46 = .ok (.iload_n 2, 1) := by decide +kernel
theorem dX12_areSame_47 : decode cX12_areSame 47 = .ok (.imul, 1) := by decide +kernel
theorem dX12_areSame_48 : decode cX12_areSame 48 = .ok (.iload_n 3, 1) := by decide +kernel
theorem dX12_areSame_49 : decode cX12_areSame 49 = .ok (.iadd, 1) := by decide +kernel
theorem dX12_areSame_50 : decode cX12_areSame 50 = .ok (.baload, 1) := by decide +kernel
theorem dX12_areSame_51 : decode cX12_areSame 51 = .ok (.if_icmp .eq 5, 3) := by decide +kernel
theorem dX12_areSame_54 : decode cX12_areSame 54 = .ok (.iconst 0, 1) := by decide +kernel
theorem dX12_areSame_55 : decode cX12_areSame 55 = .ok (.ireturn, 1) := by decide +kernel
theorem dX12_areSame_56 : decode cX12_areSame 56 = .ok (.iinc 3 1, 3) := by decide +kernel
theorem dX12_areSame_59 : decode cX12_areSame 59 = .ok (.goto (-40), 3) := by decide +kernel
theorem dX12_areSame_62 : decode cX12_areSame 62 = .ok (.iconst 1, 1) := by decide +kernel
theorem dX12_areSame_63 : decode cX12_areSame 63 = .ok (.ireturn, 1) := by decide +kernel
theorem dX12_isReadUnlike_0 : decode cX12_isReadUnlike 0 = .ok (.iconst 0, 1) := by decide +kernel
theorem dX12_isReadUnlike_1 : decode cX12_isReadUnlike 1 = .ok (.istore_n 2, 1) := by decide +kernel
theorem dX12_isReadUnlike_2 : decode cX12_isReadUnlike 2 = .ok (.iload_n 2, 1) := by decide +kernel
theorem dX12_isReadUnlike_3 : decode cX12_isReadUnlike 3 = .ok (.iconst 4, 1) := by decide +kernel
theorem dX12_isReadUnlike_4 : decode cX12_isReadUnlike 4 = .ok (.if_icmp .ge 61, 3) := by decide +kernel
theorem dX12_isReadUnlike_7 : decode cX12_isReadUnlike 7 = .ok (.iconst 0, 1) := by decide +kernel
theorem dX12_isReadUnlike_8 : decode cX12_isReadUnlike 8 = .ok (.istore_n 3, 1) := by decide +kernel
theorem dX12_isReadUnlike_9 : decode cX12_isReadUnlike 9 = .ok (.iload_n 3, 1) := by decide +kernel
theorem dX12_isReadUnlike_10 : decode cX12_isReadUnlike 10 = .ok (.iload_n 2, 1) := by decide +kernel
theorem dX12_isReadUnlike_11 : decode cX12_isReadUnlike 11 = .ok (.if_icmp .ge 48, 3) := by decide +kernel
theorem dX12_isReadUnlike_14 : decode cX12_isReadUnlike 14 = .ok (.aload_n 0, 1) := by decide +kernel
theorem dX12_isReadUnlike_15 : decode cX12_isReadUnlike 15 = .ok (.iload_n 2, 1) := by decide +kernel
theorem dX12_isReadUnlike_16 : decode cX12_isReadUnlike 16 = .ok (.iload_n 1, 1) := by decide +kernel
theorem dX12_isReadUnlike_17 : decode cX12_isReadUnlike 17 = .ok (.invokevirtual 465, 3) := by decide +kernel
theorem dX12_isReadUnlike_20 : decode cX12_isReadUnlike 20 = .ok (.ifCond .eq 33, 3) := by decide +kernel
theorem dX12_isReadUnlike_23 : decode cX12_isReadUnlike 23 = .ok (.aload_n 0, 1) := by decide +kernel
theorem dX12_isReadUnlike_24 : decode cX12_isReadUnlike 24 = .ok (.iload_n 3, 1) := by decide +kernel
theorem dX12_isReadUnlike_25 : decode cX12_isReadUnlike 25 = .ok (.iload_n 1, 1) := by decide +kernel
theorem dX12_isReadUnlike_26 : decode cX12_isReadUnlike 26 = .ok (.invokevirtual 465, 3) := by decide +kernel
theorem dX12_isReadUnlike_29 : decode cX12_isReadUnlike 29 = .ok (.ifCond .eq 24, 3) := by decide +kernel
theorem dX12_isReadUnlike_32 : decode cX12_isReadUnlike 32 = .ok (.aload_n 0, 1) := by decide +kernel
theorem dX12_isReadUnlike_33 : decode cX12_isReadUnlike 33 = .ok (.bipush 30, 2) := by decide +kernel
theorem dX12_isReadUnlike_35 : decode cX12_isReadUnlike 35 = .ok (.iload_n 2, 1) := by decide +kernel
theorem dX12_isReadUnlike_36 : decode cX12_isReadUnlike 36 = .ok (.imul, 1) := by decide +kernel
theorem dX12_isReadUnlike_37 : decode cX12_isReadUnlike 37 = .ok (.iload_n 1, 1) := by decide +kernel
theorem dX12_isReadUnlike_38 : decode cX12_isReadUnlike 38 = .ok (.iadd, 1) := by decide +kernel
theorem dX12_isReadUnlike_39 : decode cX12_isReadUnlike 39 = .ok (.bipush 30, 2) := by decide +kernel
theorem dX12_isReadUnlike_41 : decode cX12_isReadUnlike 41 = .ok (.iload_n 3, 1) := by decide +kernel
theorem dX12_isReadUnlike_42 : decode cX12_isReadUnlike 42 = .ok (.imul, 1) := by decide +kernel
theorem dX12_isReadUnlike_43 : decode cX12_isReadUnlike 43 = .ok (.iload_n 1, 1) := by decide +kernel
theorem dX12_isReadUnlike_44 : decode cX12_isReadUnlike 44 = .ok (.iadd, 1) := by decide +kernel
theorem dX12_isReadUnlike_45 : decode cX12_isReadUnlike 45 = .ok (.invokevirtual 480, 3) := by decide +kernel
theorem dX12_isReadUnlike_48 : decode cX12_isReadUnlike 48 = .ok (.ifCond .ne 5, 3) := by decide +kernel
theorem dX12_isReadUnlike_51 : decode cX12_isReadUnlike 51 = .ok (.iconst 1, 1) := by decide +kernel
theorem dX12_isReadUnlike_52 : decode cX12_isReadUnlike 52 = .ok (.ireturn, 1) := by decide +kernel
theorem dX12_isReadUnlike_53 : decode cX12_isReadUnlike 53 = .ok (.iinc 3 1, 3) := by decide +kernel
theorem dX12_isReadUnlike_56 : decode cX12_isReadUnlike 56 = .ok (.goto (-47), 3) := by decide +kernel
theorem dX12_isReadUnlike_59 : decode cX12_isReadUnlike 59 = .ok (.iinc 2 1, 3) := by decide +kernel
theorem dX12_isReadUnlike_62 : decode cX12_isReadUnlike 62 = .ok (.goto (-60), 3) := by decide +kernel
theorem dX12_isReadUnlike_65 : decode cX12_isReadUnlike 65 = .ok (.iconst 0, 1) := by decide +kernel
theorem dX12_isReadUnlike_66 : decode cX12_isReadUnlike 66 = .ok (.ireturn, 1) := by decide +kernel
theorem dX12_papers_0 : decode cX12_papers 0 = .ok (.aload_n 0, 1) := by decide +kernel
theorem dX12_papers_1 : decode cX12_papers 1 = .ok (.iconst 0, 1) := by decide +kernel
theorem dX12_papers_2 : decode cX12_papers 2 = .ok (.putfield 180, 3) := by decide +kernel
theorem dX12_papers_5 : decode cX12_papers 5 = .ok (.iload_n 1, 1) := by decide +kernel
theorem dX12_papers_6 : decode cX12_papers 6 = .ok (.iconst 0, 1) := by decide +kernel
theorem dX12_papers_7 : decode cX12_papers 7 = .ok (.iconst 3, 1) := by decide +kernel
theorem dX12_papers_8 : decode cX12_papers 8 = .ok (.invokestatic 196, 3) := by decide +kernel
theorem dX12_papers_11 : decode cX12_papers 11 = .ok (.ifCond .ne 5, 3) := by decide +kernel
theorem dX12_papers_14 : decode cX12_papers 14 = .ok (.iconst (-1), 1) := by decide +kernel
theorem dX12_papers_15 : decode cX12_papers 15 = .ok (.ireturn, 1) := by decide +kernel
theorem dX12_papers_16 : decode cX12_papers 16 = .ok (.iconst 0, 1) := by decide +kernel
theorem dX12_papers_17 : decode cX12_papers 17 = .ok (.istore_n 2, 1) := by decide +kernel
theorem dX12_papers_18 : decode cX12_papers 18 = .ok (.iconst 0, 1) := by decide +kernel
theorem dX12_papers_19 : decode cX12_papers 19 = .ok (.istore_n 3, 1) := by decide +kernel
theorem dX12_papers_20 : decode cX12_papers 20 = .ok (.iload_n 3, 1) := by decide +kernel
theorem dX12_papers_21 : decode cX12_papers 21 = .ok (.bipush 30, 2) := by decide +kernel
theorem dX12_papers_23 : decode cX12_papers 23 = .ok (.if_icmp .ge 85, 3) := by decide +kernel
theorem dX12_papers_26 : decode cX12_papers 26 = .ok (.aload_n 0, 1) := by decide +kernel
theorem dX12_papers_27 : decode cX12_papers 27 = .ok (.iload_n 3, 1) := by decide +kernel
theorem dX12_papers_28 : decode cX12_papers 28 = .ok (.invokevirtual 483, 3) := by decide +kernel
theorem dX12_papers_31 : decode cX12_papers 31 = .ok (.ifCond .ne 6, 3) := by decide +kernel
theorem dX12_papers_34 : decode cX12_papers 34 = .ok (.goto 68, 3) := by decide +kernel
theorem dX12_papers_37 : decode cX12_papers 37 = .ok (.aload_n 0, 1) := by decide +kernel
theorem dX12_papers_38 : decode cX12_papers 38 = .ok (.iload_n 3, 1) := by decide +kernel
theorem dX12_papers_39 : decode cX12_papers 39 = .ok (.invokevirtual 477, 3) := by decide +kernel
theorem dX12_papers_42 : decode cX12_papers 42 = .ok (.iconst (-1), 1) := by decide +kernel
theorem dX12_papers_43 : decode cX12_papers 43 = .ok (.if_icmp .eq 7, 3) := by decide +kernel
theorem dX12_papers_46 : decode cX12_papers 46 = .ok (.iconst 1, 1) := by decide +kernel
theorem dX12_papers_47 : decode cX12_papers 47 = .ok (.goto 4, 3) := by decide +kernel
theorem dX12_papers_50 : decode cX12_papers 50 = .ok (.iconst 0, 1) := by decide +kernel
theorem dX12_papers_51 : decode cX12_papers 51 = .ok (.istore 4, 2) := by decide +kernel
theorem dX12_papers_53 : decode cX12_papers 53 = .ok (.iload_n 2, 1) := by decide +kernel
theorem dX12_papers_54 : decode cX12_papers 54 = .ok (.iload_n 1, 1) := by decide +kernel
theorem dX12_papers_55 : decode cX12_papers 55 = .ok (.ifCond .ne 6, 3) := by decide +kernel
theorem dX12_papers_58 : decode cX12_papers 58 = .ok (.goto 37, 3) := by decide +kernel
theorem dX12_papers_61 : decode cX12_papers 61 = .ok (.iload_n 1, 1) := by decide +kernel
theorem dX12_papers_62 : decode cX12_papers 62 = .ok (.iconst 1, 1) := by decide +kernel
theorem dX12_papers_63 : decode cX12_papers 63 = .ok (.if_icmp .ne 11, 3) := by decide +kernel
theorem dX12_papers_66 : decode cX12_papers 66 = .ok (.iload 4, 2) := by decide +kernel
theorem dX12_papers_68 : decode cX12_papers 68 = .ok (.ifCond .eq 31, 3) := by decide +kernel
theorem dX12_papers_71 : decode cX12_papers 71 = .ok (.goto 24, 3) := by decide +kernel
theorem dX12_papers_74 : decode cX12_papers 74 = .ok (.iload_n 1, 1) := by decide +kernel
theorem dX12_papers_75 : decode cX12_papers 75 = .ok (.iconst 2, 1) := by decide +kernel
theorem dX12_papers_76 : decode cX12_papers 76 = .ok (.if_icmp .ne 11, 3) := by decide +kernel
theorem dX12_papers_79 : decode cX12_papers 79 = .ok (.iload 4, 2) := by decide +kernel
theorem dX12_papers_81 : decode cX12_papers 81 = .ok (.ifCond .ne 18, 3) := by decide +kernel
theorem dX12_papers_84 : decode cX12_papers 84 = .ok (.goto 11, 3) := by decide +kernel
theorem dX12_papers_87 : decode cX12_papers 87 = .ok (.aload_n 0, 1) := by decide +kernel
theorem dX12_papers_88 : decode cX12_papers 88 = .ok (.iload_n 3, 1) := by decide +kernel
theorem dX12_papers_89 : decode cX12_papers 89 = .ok (.invokevirtual 486, 3) := by decide +kernel
theorem dX12_papers_92 : decode cX12_papers 92 = .ok (.ifCond .eq 7, 3) := by decide +kernel
theorem dX12_papers_95 : decode cX12_papers 95 = .ok (.iconst 1, 1) := by decide +kernel
theorem dX12_papers_96 : decode cX12_papers 96 = .ok (.goto 4, 3) := by decide +kernel
theorem dX12_papers_99 : decode cX12_papers 99 = .ok (.iconst 0, 1) := by decide +kernel
theorem dX12_papers_100 : decode cX12_papers 100 = .ok (.iadd, 1) := by decide +kernel
theorem dX12_papers_101 : decode cX12_papers 101 = .ok (.istore_n 2, 1) := by decide +kernel
theorem dX12_papers_102 : decode cX12_papers 102 = .ok (.iinc 3 1, 3) := by decide +kernel
theorem dX12_papers_105 : decode cX12_papers 105 = .ok (.goto (-85), 3) := by decide +kernel
theorem dX12_papers_108 : decode cX12_papers 108 = .ok (.iload_n 2, 1) := by decide +kernel
theorem dX12_papers_109 : decode cX12_papers 109 = .ok (.ireturn, 1) := by decide +kernel
theorem dX12_written_0 : decode cX12_written 0 = .ok (.iconst 0, 1) := by decide +kernel
theorem dX12_written_1 : decode cX12_written 1 = .ok (.istore_n 3, 1) := by decide +kernel
theorem dX12_written_2 : decode cX12_written 2 = .ok (.iconst 0, 1) := by decide +kernel
theorem dX12_written_3 : decode cX12_written 3 = .ok (.istore 4, 2) := by decide +kernel
theorem dX12_written_5 : decode cX12_written 5 = .ok (.iload 4, 2) := by decide +kernel
theorem dX12_written_7 : decode cX12_written 7 = .ok (.bipush 30, 2) := by decide +kernel
theorem dX12_written_9 : decode cX12_written 9 = .ok (.if_icmp .ge 104, 3) := by decide +kernel
theorem dX12_written_12 : decode cX12_written 12 = .ok (.iconst 0, 1) := by decide +kernel
theorem dX12_written_13 : decode cX12_written 13 = .ok (.istore 5, 2) := by decide +kernel
theorem dX12_written_15 : decode cX12_written 15 = .ok (.iconst 0, 1) := by decide +kernel
theorem dX12_written_16 : decode cX12_written 16 = .ok (.istore 6, 2) := by decide +kernel
theorem dX12_written_18 : decode cX12_written 18 = .ok (.iload 6, 2) := by decide +kernel
theorem dX12_written_20 : decode cX12_written 20 = .ok (.iconst 4, 1) := by decide +kernel
theorem dX12_written_21 : decode cX12_written 21 = .ok (.if_icmp .ge 56, 3) := by decide +kernel
theorem dX12_written_24 : decode cX12_written 24 = .ok (.iload_n 2, 1) := by decide +kernel
theorem dX12_written_25 : decode cX12_written 25 = .ok (.iconst 1, 1) := by decide +kernel
theorem dX12_written_26 : decode cX12_written 26 = .ok (.if_icmp .ne 51, 3) := by decide +kernel
theorem dX12_written_29 : decode cX12_written 29 = .ok (.iload 5, 2) := by decide +kernel
theorem dX12_written_31 : decode cX12_written 31 = .ok (.ifCond .ne 33, 3) := by decide +kernel
theorem dX12_written_34 : decode cX12_written 34 = .ok (.aload_n 0, 1) := by decide +kernel
theorem dX12_written_35 : decode cX12_written 35 = .ok (.iload 6, 2) := by decide +kernel
theorem dX12_written_37 : decode cX12_written 37 = .ok (.iload 4, 2) := by decide +kernel
theorem dX12_written_39 : decode cX12_written 39 = .ok (.invokevirtual 465, 3) := by decide +kernel
theorem dX12_written_42 : decode cX12_written 42 = .ok (.ifCond .eq 26, 3) := by decide +kernel
theorem dX12_written_45 : decode cX12_written 45 = .ok (.aload_n 0, 1) := by decide +kernel
theorem dX12_written_46 : decode cX12_written 46 = .ok (.bipush 30, 2) := by decide +kernel
theorem dX12_written_48 : decode cX12_written 48 = .ok (.iload 6, 2) := by decide +kernel
theorem dX12_written_50 : decode cX12_written 50 = .ok (.imul, 1) := by decide +kernel
theorem dX12_written_51 : decode cX12_written 51 = .ok (.iload 4, 2) := by decide +kernel
theorem dX12_written_53 : decode cX12_written 53 = .ok (.iadd, 1) := by decide +kernel
theorem dX12_written_54 : decode cX12_written 54 = .ok (.invokevirtual 471, 3) := by decide +kernel
theorem dX12_written_57 : decode cX12_written 57 = .ok (.iload_n 1, 1) := by decide +kernel
theorem dX12_written_58 : decode cX12_written 58 = .ok (.invokestatic 200, 3) := by decide +kernel
theorem dX12_written_61 : decode cX12_written 61 = .ok (.ifCond .eq 7, 3) := by decide +kernel
theorem dX12_written_64 : decode cX12_written 64 = .ok (.iconst 1, 1) := by decide +kernel
theorem dX12_written_65 : decode cX12_written 65 = .ok (.goto 4, 3) := by decide +kernel
theorem dX12_written_68 : decode cX12_written 68 = .ok (.iconst 0, 1) := by decide +kernel
theorem dX12_written_69 : decode cX12_written 69 = .ok (.istore 5, 2) := by decide +kernel
theorem dX12_written_71 : decode cX12_written 71 = .ok (.iinc 6 1, 3) := by decide +kernel
theorem dX12_written_74 : decode cX12_written 74 = .ok (.goto (-56), 3) := by decide +kernel
theorem dX12_written_77 : decode cX12_written 77 = .ok (.iload_n 3, 1) := by decide +kernel
theorem dX12_written_78 : decode cX12_written 78 = .ok (.iload_n 2, 1) := by decide +kernel
theorem dX12_written_79 : decode cX12_written 79 = .ok (.ifCond .ne 16, 3) := by decide +kernel
theorem dX12_written_82 : decode cX12_written 82 = .ok (.aload_n 0, 1) := by decide +kernel
theorem dX12_written_83 : decode cX12_written 83 = .ok (.iload 4, 2) := by decide +kernel
theorem dX12_written_85 : decode cX12_written 85 = .ok (.invokevirtual 477, 3) := by decide +kernel
theorem dX12_written_88 : decode cX12_written 88 = .ok (.iload_n 1, 1) := by decide +kernel
theorem dX12_written_89 : decode cX12_written 89 = .ok (.if_icmp .ne 15, 3) := by decide +kernel
theorem dX12_written_92 : decode cX12_written 92 = .ok (.goto 8, 3) := by decide +kernel
theorem dX12_written_95 : decode cX12_written 95 = .ok (.iload 5, 2) := by decide +kernel
theorem dX12_written_97 : decode cX12_written 97 = .ok (.ifCond .eq 7, 3) := by decide +kernel
theorem dX12_written_100 : decode cX12_written 100 = .ok (.iconst 1, 1) := by decide +kernel
theorem dX12_written_101 : decode cX12_written 101 = .ok (.goto 4, 3) := by decide +kernel
theorem dX12_written_104 : decode cX12_written 104 = .ok (.iconst 0, 1) := by decide +kernel
theorem dX12_written_105 : decode cX12_written 105 = .ok (.iadd, 1) := by decide +kernel
theorem dX12_written_106 : decode cX12_written 106 = .ok (.istore_n 3, 1) := by decide +kernel
theorem dX12_written_107 : decode cX12_written 107 = .ok (.iinc 4 1, 3) := by decide +kernel
theorem dX12_written_110 : decode cX12_written 110 = .ok (.goto (-105), 3) := by decide +kernel
theorem dX12_written_113 : decode cX12_written 113 = .ok (.iload_n 3, 1) := by decide +kernel
theorem dX12_written_114 : decode cX12_written 114 = .ok (.ireturn, 1) := by decide +kernel
theorem dX12_writtenFor_0 : decode cX12_writtenFor 0 = .ok (.aload_n 0, 1) := by decide +kernel
theorem dX12_writtenFor_1 : decode cX12_writtenFor 1 = .ok (.iconst 0, 1) := by decide +kernel
theorem dX12_writtenFor_2 : decode cX12_writtenFor 2 = .ok (.putfield 180, 3) := by decide +kernel
theorem dX12_writtenFor_5 : decode cX12_writtenFor 5 = .ok (.iload_n 1, 1) := by decide +kernel
theorem dX12_writtenFor_6 : decode cX12_writtenFor 6 = .ok (.iconst 0, 1) := by decide +kernel
theorem dX12_writtenFor_7 : decode cX12_writtenFor 7 = .ok (.aload_n 0, 1) := by decide +kernel
theorem dX12_writtenFor_8 : decode cX12_writtenFor 8 = .ok (.getfield 452, 3) := by decide +kernel
theorem dX12_writtenFor_11 : decode cX12_writtenFor 11 = .ok (.iconst 1, 1) := by decide +kernel
theorem dX12_writtenFor_12 : decode cX12_writtenFor 12 = .ok (.isub, 1) := by decide +kernel
theorem dX12_writtenFor_13 : decode cX12_writtenFor 13 = .ok (.invokestatic 196, 3) := by decide +kernel
theorem dX12_writtenFor_16 : decode cX12_writtenFor 16 = .ok (.ifCond .eq 21, 3) := by decide +kernel
theorem dX12_writtenFor_19 : decode cX12_writtenFor 19 = .ok (.iload_n 2, 1) := by decide +kernel
theorem dX12_writtenFor_20 : decode cX12_writtenFor 20 = .ok (.iconst 0, 1) := by decide +kernel
theorem dX12_writtenFor_21 : decode cX12_writtenFor 21 = .ok (.iconst 1, 1) := by decide +kernel
theorem dX12_writtenFor_22 : decode cX12_writtenFor 22 = .ok (.invokestatic 196, 3) := by decide +kernel
theorem dX12_writtenFor_25 : decode cX12_writtenFor 25 = .ok (.ifCond .eq 12, 3) := by decide +kernel
theorem dX12_writtenFor_28 : decode cX12_writtenFor 28 = .ok (.aload_n 0, 1) := by decide +kernel
theorem dX12_writtenFor_29 : decode cX12_writtenFor 29 = .ok (.iload_n 1, 1) := by decide +kernel
theorem dX12_writtenFor_30 : decode cX12_writtenFor 30 = .ok (.iload_n 2, 1) := by decide +kernel
theorem dX12_writtenFor_31 : decode cX12_writtenFor 31 = .ok (.invokevirtual 489, 3) := by decide +kernel
theorem dX12_writtenFor_34 : decode cX12_writtenFor 34 = .ok (.goto 4, 3) := by decide +kernel
theorem dX12_writtenFor_37 : decode cX12_writtenFor 37 = .ok (.iconst (-1), 1) := by decide +kernel
theorem dX12_writtenFor_38 : decode cX12_writtenFor 38 = .ok (.ireturn, 1) := by decide +kernel
theorem dX12_elected_0 : decode cX12_elected 0 = .ok (.aload_n 0, 1) := by decide +kernel
theorem dX12_elected_1 : decode cX12_elected 1 = .ok (.iconst 0, 1) := by decide +kernel
theorem dX12_elected_2 : decode cX12_elected 2 = .ok (.putfield 180, 3) := by decide +kernel
theorem dX12_elected_5 : decode cX12_elected 5 = .ok (.iconst 0, 1) := by decide +kernel
theorem dX12_elected_6 : decode cX12_elected 6 = .ok (.istore_n 1, 1) := by decide +kernel
theorem dX12_elected_7 : decode cX12_elected 7 = .ok (.iload_n 1, 1) := by decide +kernel
theorem dX12_elected_8 : decode cX12_elected 8 = .ok (.aload_n 0, 1) := by decide +kernel
theorem dX12_elected_9 : decode cX12_elected 9 = .ok (.getfield 452, 3) := by decide +kernel
theorem dX12_elected_12 : decode cX12_elected 12 = .ok (.if_icmp .ge 63, 3) := by decide +kernel
theorem dX12_elected_15 : decode cX12_elected 15 = .ok (.iconst 1, 1) := by decide +kernel
theorem dX12_elected_16 : decode cX12_elected 16 = .ok (.istore_n 2, 1) := by decide +kernel
theorem dX12_elected_17 : decode cX12_elected 17 = .ok (.iconst 0, 1) := by decide +kernel
theorem dX12_elected_18 : decode cX12_elected 18 = .ok (.istore_n 3, 1) := by decide +kernel
theorem dX12_elected_19 : decode cX12_elected 19 = .ok (.iload_n 3, 1) := by decide +kernel
theorem dX12_elected_20 : decode cX12_elected 20 = .ok (.aload_n 0, 1) := by decide +kernel
theorem dX12_elected_21 : decode cX12_elected 21 = .ok (.getfield 452, 3) := by decide +kernel
theorem dX12_elected_24 : decode cX12_elected 24 = .ok (.if_icmp .ge 39, 3) := by decide +kernel
theorem dX12_elected_27 : decode cX12_elected 27 = .ok (.iload_n 2, 1) := by decide +kernel
theorem dX12_elected_28 : decode cX12_elected 28 = .ok (.ifCond .eq 27, 3) := by decide +kernel
theorem dX12_elected_31 : decode cX12_elected 31 = .ok (.iload_n 3, 1) := by decide +kernel
theorem dX12_elected_32 : decode cX12_elected 32 = .ok (.iload_n 1, 1) := by decide +kernel
theorem dX12_elected_33 : decode cX12_elected 33 = .ok (.if_icmp .eq 18, 3) := by decide +kernel
theorem dX12_elected_36 : decode cX12_elected 36 = .ok (.aload_n 0, 1) := by decide +kernel
theorem dX12_elected_37 : decode cX12_elected 37 = .ok (.iload_n 1, 1) := by decide +kernel
theorem dX12_elected_38 : decode cX12_elected 38 = .ok (.iconst 0, 1) := by decide +kernel
theorem dX12_elected_39 : decode cX12_elected 39 = .ok (.invokevirtual 489, 3) := by decide +kernel
theorem dX12_elected_42 : decode cX12_elected 42 = .ok (.aload_n 0, 1) := by decide +kernel
theorem dX12_elected_43 : decode cX12_elected 43 = .ok (.iload_n 3, 1) := by decide +kernel
theorem dX12_elected_44 : decode cX12_elected 44 = .ok (.iconst 1, 1) := by decide +kernel
theorem dX12_elected_45 : decode cX12_elected 45 = .ok (.invokevirtual 489, 3) := by decide +kernel
theorem dX12_elected_48 : decode cX12_elected 48 = .ok (.if_icmp .le 7, 3) := by decide +kernel
theorem dX12_elected_51 : decode cX12_elected 51 = .ok (.iconst 1, 1) := by decide +kernel
theorem dX12_elected_52 : decode cX12_elected 52 = .ok (.goto 4, 3) := by decide +kernel
theorem dX12_elected_55 : decode cX12_elected 55 = .ok (.iconst 0, 1) := by decide +kernel
theorem dX12_elected_56 : decode cX12_elected 56 = .ok (.istore_n 2, 1) := by decide +kernel
theorem dX12_elected_57 : decode cX12_elected 57 = .ok (.iinc 3 1, 3) := by decide +kernel
theorem dX12_elected_60 : decode cX12_elected 60 = .ok (.goto (-41), 3) := by decide +kernel
theorem dX12_elected_63 : decode cX12_elected 63 = .ok (.iload_n 2, 1) := by decide +kernel
theorem dX12_elected_64 : decode cX12_elected 64 = .ok (.ifCond .eq 5, 3) := by decide +kernel
theorem dX12_elected_67 : decode cX12_elected 67 = .ok (.iload_n 1, 1) := by decide +kernel
theorem dX12_elected_68 : decode cX12_elected 68 = .ok (.ireturn, 1) := by decide +kernel
theorem dX12_elected_69 : decode cX12_elected 69 = .ok (.iinc 1 1, 3) := by decide +kernel
theorem dX12_elected_72 : decode cX12_elected 72 = .ok (.goto (-65), 3) := by decide +kernel
theorem dX12_elected_75 : decode cX12_elected 75 = .ok (.iconst (-1), 1) := by decide +kernel
theorem dX12_elected_76 : decode cX12_elected 76 = .ok (.ireturn, 1) := by decide +kernel
theorem dX12_absent_0 : decode cX12_absent 0 = .ok (.aload_n 0, 1) := by decide +kernel
theorem dX12_absent_1 : decode cX12_absent 1 = .ok (.iconst 0, 1) := by decide +kernel
theorem dX12_absent_2 : decode cX12_absent 2 = .ok (.putfield 180, 3) := by decide +kernel
theorem dX12_absent_5 : decode cX12_absent 5 = .ok (.aload_n 0, 1) := by decide +kernel
theorem dX12_absent_6 : decode cX12_absent 6 = .ok (.iload_n 1, 1) := by decide +kernel
theorem dX12_absent_7 : decode cX12_absent 7 = .ok (.invokevirtual 343, 3) := by decide +kernel
theorem dX12_absent_10 : decode cX12_absent 10 = .ok (.ifCond .eq 25, 3) := by decide +kernel
theorem dX12_absent_13 : decode cX12_absent 13 = .ok (.iload_n 2, 1) := by decide +kernel
theorem dX12_absent_14 : decode cX12_absent 14 = .ok (.iconst 0, 1) := by decide +kernel
theorem dX12_absent_15 : decode cX12_absent 15 = .ok (.sipush 9999, 3) := by decide +kernel
theorem dX12_absent_18 : decode cX12_absent 18 = .ok (.invokestatic 196, 3) := by decide +kernel
theorem dX12_absent_21 : decode cX12_absent 21 = .ok (.ifCond .eq 14, 3) := by decide +kernel
theorem dX12_absent_24 : decode cX12_absent 24 = .ok (.iload_n 3, 1) := by decide +kernel
theorem dX12_absent_25 : decode cX12_absent 25 = .ok (.iload_n 2, 1) := by decide +kernel
theorem dX12_absent_26 : decode cX12_absent 26 = .ok (.sipush 9999, 3) := by decide +kernel
theorem dX12_absent_29 : decode cX12_absent 29 = .ok (.invokestatic 196, 3) := by decide +kernel
theorem dX12_absent_32 : decode cX12_absent 32 = .ok (.ifCond .ne 5, 3) := by decide +kernel
theorem dX12_absent_35 : decode cX12_absent 35 = .ok (.iconst 0, 1) := by decide +kernel
theorem dX12_absent_36 : decode cX12_absent 36 = .ok (.ireturn, 1) := by decide +kernel
theorem dX12_absent_37 : decode cX12_absent 37 = .ok (.aload_n 0, 1) := by decide +kernel
theorem dX12_absent_38 : decode cX12_absent 38 = .ok (.getfield 138, 3) := by decide +kernel
theorem dX12_absent_41 : decode cX12_absent 41 = .ok (.iload_n 1, 1) := by decide +kernel
theorem dX12_absent_42 : decode cX12_absent 42 = .ok (.iload_n 2, 1) := by decide +kernel
theorem dX12_absent_43 : decode cX12_absent 43 = .ok (.iastore, 1) := by decide +kernel
theorem dX12_absent_44 : decode cX12_absent 44 = .ok (.aload_n 0, 1) := by decide +kernel
theorem dX12_absent_45 : decode cX12_absent 45 = .ok (.getfield 141, 3) := by decide +kernel
theorem dX12_absent_48 : decode cX12_absent 48 = .ok (.iload_n 1, 1) := by decide +kernel
theorem dX12_absent_49 : decode cX12_absent 49 = .ok (.iload_n 3, 1) := by decide +kernel
theorem dX12_absent_50 : decode cX12_absent 50 = .ok (.iastore, 1) := by decide +kernel
theorem dX12_absent_51 : decode cX12_absent 51 = .ok (.iconst 1, 1) := by decide +kernel
theorem dX12_absent_52 : decode cX12_absent 52 = .ok (.ireturn, 1) := by decide +kernel
theorem dX12_joinedAhead_0 : decode cX12_joinedAhead 0 = .ok (.aload_n 0, 1) := by decide +kernel
theorem dX12_joinedAhead_1 : decode cX12_joinedAhead 1 = .ok (.iload_n 1, 1) := by decide +kernel
theorem dX12_joinedAhead_2 : decode cX12_joinedAhead 2 = .ok (.iload_n 2, 1) := by decide +kernel
theorem dX12_joinedAhead_3 : decode cX12_joinedAhead 3 = .ok (.invokevirtual 492, 3) := by decide +kernel
theorem dX12_joinedAhead_6 : decode cX12_joinedAhead 6 = .ok (.istore_n 3, 1) := by decide +kernel
theorem dX12_joinedAhead_7 : decode cX12_joinedAhead 7 = .ok (.iload_n 3, 1) := by decide +kernel
theorem dX12_joinedAhead_8 : decode cX12_joinedAhead 8 = .ok (.ldc_w 391, 3) := by decide +kernel
theorem dX12_joinedAhead_11 : decode cX12_joinedAhead 11 = .ok (.if_icmp .ne 9, 3) := by decide +kernel
theorem dX12_joinedAhead_14 : decode cX12_joinedAhead 14 = .ok (.ldc_w 391, 3) := by decide +kernel
theorem dX12_joinedAhead_17 : decode cX12_joinedAhead 17 = .ok (.goto 18, 3) := by decide +kernel
theorem dX12_joinedAhead_20 : decode cX12_joinedAhead 20 = .ok (.iload_n 3, 1) := by decide +kernel
theorem dX12_joinedAhead_21 : decode cX12_joinedAhead 21 = .ok (.aload_n 0, 1) := by decide +kernel
theorem dX12_joinedAhead_22 : decode cX12_joinedAhead 22 = .ok (.getfield 138, 3) := by decide +kernel
theorem dX12_joinedAhead_25 : decode cX12_joinedAhead 25 = .ok (.iload_n 1, 1) := by decide +kernel
theorem dX12_joinedAhead_26 : decode cX12_joinedAhead 26 = .ok (.iaload, 1) := by decide +kernel
theorem dX12_joinedAhead_27 : decode cX12_joinedAhead 27 = .ok (.iadd, 1) := by decide +kernel
theorem dX12_joinedAhead_28 : decode cX12_joinedAhead 28 = .ok (.aload_n 0, 1) := by decide +kernel
theorem dX12_joinedAhead_29 : decode cX12_joinedAhead 29 = .ok (.getfield 141, 3) := by decide +kernel
theorem dX12_joinedAhead_32 : decode cX12_joinedAhead 32 = .ok (.iload_n 2, 1) := by decide +kernel
theorem dX12_joinedAhead_33 : decode cX12_joinedAhead 33 = .ok (.iaload, 1) := by decide +kernel
theorem dX12_joinedAhead_34 : decode cX12_joinedAhead 34 = .ok (.isub, 1) := by decide +kernel
theorem dX12_joinedAhead_35 : decode cX12_joinedAhead 35 = .ok (.ireturn, 1) := by decide +kernel
theorem dX12_event_0 : decode cX12_event 0 = .ok (.aload_n 0, 1) := by decide +kernel
theorem dX12_event_1 : decode cX12_event 1 = .ok (.iconst 0, 1) := by decide +kernel
theorem dX12_event_2 : decode cX12_event 2 = .ok (.putfield 180, 3) := by decide +kernel
theorem dX12_event_5 : decode cX12_event 5 = .ok (.aload_n 0, 1) := by decide +kernel
theorem dX12_event_6 : decode cX12_event 6 = .ok (.iload_n 1, 1) := by decide +kernel
theorem dX12_event_7 : decode cX12_event 7 = .ok (.invokevirtual 337, 3) := by decide +kernel
theorem dX12_event_10 : decode cX12_event 10 = .ok (.ifCond .eq 34, 3) := by decide +kernel
theorem dX12_event_13 : decode cX12_event 13 = .ok (.aload_n 0, 1) := by decide +kernel
theorem dX12_event_14 : decode cX12_event 14 = .ok (.getfield 144, 3) := by decide +kernel
theorem dX12_event_17 : decode cX12_event 17 = .ok (.iload_n 1, 1) := by decide +kernel
theorem dX12_event_18 : decode cX12_event 18 = .ok (.iaload, 1) := by decide +kernel
theorem dX12_event_19 : decode cX12_event 19 = .ok (.bipush 20, 2) := by decide +kernel
theorem dX12_event_21 : decode cX12_event 21 = .ok (.if_icmp .eq 23, 3) := by decide +kernel
theorem dX12_event_24 : decode cX12_event 24 = .ok (.iload_n 2, 1) := by decide +kernel
theorem dX12_event_25 : decode cX12_event 25 = .ok (.iconst 0, 1) := by decide +kernel
theorem dX12_event_26 : decode cX12_event 26 = .ok (.sipush 9999, 3) := by decide +kernel
theorem dX12_event_29 : decode cX12_event 29 = .ok (.invokestatic 196, 3) := by decide +kernel
theorem dX12_event_32 : decode cX12_event 32 = .ok (.ifCond .eq 12, 3) := by decide +kernel
theorem dX12_event_35 : decode cX12_event 35 = .ok (.iload_n 3, 1) := by decide +kernel
theorem dX12_event_36 : decode cX12_event 36 = .ok (.iconst 0, 1) := by decide +kernel
theorem dX12_event_37 : decode cX12_event 37 = .ok (.iconst 3, 1) := by decide +kernel
theorem dX12_event_38 : decode cX12_event 38 = .ok (.invokestatic 196, 3) := by decide +kernel
theorem dX12_event_41 : decode cX12_event 41 = .ok (.ifCond .ne 5, 3) := by decide +kernel
theorem dX12_event_44 : decode cX12_event 44 = .ok (.iconst (-1), 1) := by decide +kernel
theorem dX12_event_45 : decode cX12_event 45 = .ok (.ireturn, 1) := by decide +kernel
theorem dX12_event_46 : decode cX12_event 46 = .ok (.iload_n 3, 1) := by decide +kernel
theorem dX12_event_47 : decode cX12_event 47 = .ok (.iconst 2, 1) := by decide +kernel
theorem dX12_event_48 : decode cX12_event 48 = .ok (.if_icmp .eq 27, 3) := by decide +kernel
theorem dX12_event_51 : decode cX12_event 51 = .ok (.iload 4, 2) := by decide +kernel
theorem dX12_event_53 : decode cX12_event 53 = .ok (.iconst 0, 1) := by decide +kernel
theorem dX12_event_54 : decode cX12_event 54 = .ok (.iload_n 3, 1) := by decide +kernel
theorem dX12_event_55 : decode cX12_event 55 = .ok (.iconst 3, 1) := by decide +kernel
theorem dX12_event_56 : decode cX12_event 56 = .ok (.if_icmp .ne 8, 3) := by decide +kernel
theorem dX12_event_59 : decode cX12_event 59 = .ok (.bipush 9, 2) := by decide +kernel
theorem dX12_event_61 : decode cX12_event 61 = .ok (.goto 6, 3) := by decide +kernel
theorem dX12_event_64 : decode cX12_event 64 = .ok (.sipush 9999, 3) := by decide +kernel
theorem dX12_event_67 : decode cX12_event 67 = .ok (.invokestatic 196, 3) := by decide +kernel
theorem dX12_event_70 : decode cX12_event 70 = .ok (.ifCond .ne 5, 3) := by decide +kernel
theorem dX12_event_73 : decode cX12_event 73 = .ok (.iconst (-1), 1) := by decide +kernel
theorem dX12_event_74 : decode cX12_event 74 = .ok (.ireturn, 1) := by decide +kernel
theorem dX12_event_75 : decode cX12_event 75 = .ok (.bipush 20, 2) := by decide +kernel
theorem dX12_event_77 : decode cX12_event 77 = .ok (.iload_n 1, 1) := by decide +kernel
theorem dX12_event_78 : decode cX12_event 78 = .ok (.imul, 1) := by decide +kernel
theorem dX12_event_79 : decode cX12_event 79 = .ok (.aload_n 0, 1) := by decide +kernel
theorem dX12_event_80 : decode cX12_event 80 = .ok (.getfield 144, 3) := by decide +kernel
theorem dX12_event_83 : decode cX12_event 83 = .ok (.iload_n 1, 1) := by decide +kernel
theorem dX12_event_84 : decode cX12_event 84 = .ok (.iaload, 1) := by decide +kernel
theorem dX12_event_85 : decode cX12_event 85 = .ok (.iadd, 1) := by decide +kernel
theorem dX12_event_86 : decode cX12_event 86 = .ok (.istore 5, 2) := by decide +kernel
theorem dX12_event_88 : decode cX12_event 88 = .ok (.aload_n 0, 1) := by decide +kernel
theorem dX12_event_89 : decode cX12_event 89 = .ok (.getfield 144, 3) := by decide +kernel
theorem dX12_event_92 : decode cX12_event 92 = .ok (.iload_n 1, 1) := by decide +kernel
theorem dX12_event_93 : decode cX12_event 93 = .ok (.iaload, 1) := by decide +kernel
theorem dX12_event_94 : decode cX12_event 94 = .ok (.ifCond .le 18, 3) := by decide +kernel
theorem dX12_event_97 : decode cX12_event 97 = .ok (.iload_n 2, 1) := by decide +kernel
theorem dX12_event_98 : decode cX12_event 98 = .ok (.aload_n 0, 1) := by decide +kernel
theorem dX12_event_99 : decode cX12_event 99 = .ok (.getfield 147, 3) := by decide +kernel
theorem dX12_event_102 : decode cX12_event 102 = .ok (.iload 5, 2) := by decide +kernel
theorem dX12_event_104 : decode cX12_event 104 = .ok (.iconst 1, 1) := by decide +kernel
theorem dX12_event_105 : decode cX12_event 105 = .ok (.isub, 1) := by decide +kernel
theorem dX12_event_106 : decode cX12_event 106 = .ok (.iaload, 1) := by decide +kernel
theorem dX12_event_107 : decode cX12_event 107 = .ok (.if_icmp .ge 5, 3) := by decide +kernel
theorem dX12_event_110 : decode cX12_event 110 = .ok (.iconst (-1), 1) := by decide +kernel
theorem dX12_event_111 : decode cX12_event 111 = .ok (.ireturn, 1) := by decide +kernel
theorem dX12_event_112 : decode cX12_event 112 = .ok (.aload_n 0, 1) := by decide +kernel
theorem dX12_event_113 : decode cX12_event 113 = .ok (.getfield 147, 3) := by decide +kernel
theorem dX12_event_116 : decode cX12_event 116 = .ok (.iload 5, 2) := by decide +kernel
theorem dX12_event_118 : decode cX12_event 118 = .ok (.iload_n 2, 1) := by decide +kernel
theorem dX12_event_119 : decode cX12_event 119 = .ok (.iastore, 1) := by decide +kernel
theorem dX12_event_120 : decode cX12_event 120 = .ok (.aload_n 0, 1) := by decide +kernel
theorem dX12_event_121 : decode cX12_event 121 = .ok (.getfield 150, 3) := by decide +kernel
theorem dX12_event_124 : decode cX12_event 124 = .ok (.iload 5, 2) := by decide +kernel
theorem dX12_event_126 : decode cX12_event 126 = .ok (.iload_n 3, 1) := by decide +kernel
theorem dX12_event_127 : decode cX12_event 127 = .ok (.iastore, 1) := by decide +kernel
theorem dX12_event_128 : decode cX12_event 128 = .ok (.aload_n 0, 1) := by decide +kernel
theorem dX12_event_129 : decode cX12_event 129 = .ok (.getfield 153, 3) := by decide +kernel
theorem dX12_event_132 : decode cX12_event 132 = .ok (.iload 5, 2) := by decide +kernel
theorem dX12_event_134 : decode cX12_event 134 = .ok (.iload 4, 2) := by decide +kernel
theorem dX12_event_136 : decode cX12_event 136 = .ok (.iastore, 1) := by decide +kernel
theorem dX12_event_137 : decode cX12_event 137 = .ok (.aload_n 0, 1) := by decide +kernel
theorem dX12_event_138 : decode cX12_event 138 = .ok (.getfield 144, 3) := by decide +kernel
theorem dX12_event_141 : decode cX12_event 141 = .ok (.iload_n 1, 1) := by decide +kernel
theorem dX12_event_142 : decode cX12_event 142 = .ok (.dup2, 1) := by decide +kernel
theorem dX12_event_143 : decode cX12_event 143 = .ok (.iaload, 1) := by decide +kernel
theorem dX12_event_144 : decode cX12_event 144 = .ok (.iconst 1, 1) := by decide +kernel
theorem dX12_event_145 : decode cX12_event 145 = .ok (.iadd, 1) := by decide +kernel
theorem dX12_event_146 : decode cX12_event 146 = .ok (.iastore, 1) := by decide +kernel
theorem dX12_event_147 : decode cX12_event 147 = .ok (.aload_n 0, 1) := by decide +kernel
theorem dX12_event_148 : decode cX12_event 148 = .ok (.getfield 144, 3) := by decide +kernel
theorem dX12_event_151 : decode cX12_event 151 = .ok (.iload_n 1, 1) := by decide +kernel
theorem dX12_event_152 : decode cX12_event 152 = .ok (.iaload, 1) := by decide +kernel
theorem dX12_event_153 : decode cX12_event 153 = .ok (.ireturn, 1) := by decide +kernel
theorem dX12_goSeals_0 : decode cX12_goSeals 0 = .ok (.iconst 1, 1) := by decide +kernel
theorem dX12_goSeals_1 : decode cX12_goSeals 1 = .ok (.istore_n 2, 1) := by decide +kernel
theorem dX12_goSeals_2 : decode cX12_goSeals 2 = .ok (.iconst (-1), 1) := by decide +kernel
theorem dX12_goSeals_3 : decode cX12_goSeals 3 = .ok (.istore_n 3, 1) := by decide +kernel
theorem dX12_goSeals_4 : decode cX12_goSeals 4 = .ok (.iconst 0, 1) := by decide +kernel
theorem dX12_goSeals_5 : decode cX12_goSeals 5 = .ok (.istore 4, 2) := by decide +kernel
theorem dX12_goSeals_7 : decode cX12_goSeals 7 = .ok (.aload_n 0, 1) := by decide +kernel
theorem dX12_goSeals_8 : decode cX12_goSeals 8 = .ok (.iconst 0, 1) := by decide +kernel
theorem dX12_goSeals_9 : decode cX12_goSeals 9 = .ok (.putfield 495, 3) := by decide +kernel
theorem dX12_goSeals_12 : decode cX12_goSeals 12 = .ok (.iconst 0, 1) := by decide +kernel
theorem dX12_goSeals_13 : decode cX12_goSeals 13 = .ok (.istore 5, 2) := by decide +kernel
theorem dX12_goSeals_15 : decode cX12_goSeals 15 = .ok (.iload 5, 2) := by decide +kernel
theorem dX12_goSeals_17 : decode cX12_goSeals 17 = .ok (.aload_n 0, 1) := by decide +kernel
theorem dX12_goSeals_18 : decode cX12_goSeals 18 = .ok (.getfield 144, 3) := by decide +kernel
theorem dX12_goSeals_21 : decode cX12_goSeals 21 = .ok (.iload_n 1, 1) := by decide +kernel
theorem dX12_goSeals_22 : decode cX12_goSeals 22 = .ok (.iaload, 1) := by decide +kernel
theorem dX12_goSeals_23 : decode cX12_goSeals 23 = .ok (.if_icmp .ge 202, 3) := by decide +kernel
theorem dX12_goSeals_26 : decode cX12_goSeals 26 = .ok (.bipush 20, 2) := by decide +kernel
theorem dX12_goSeals_28 : decode cX12_goSeals 28 = .ok (.iload_n 1, 1) := by decide +kernel
theorem dX12_goSeals_29 : decode cX12_goSeals 29 = .ok (.imul, 1) := by decide +kernel
theorem dX12_goSeals_30 : decode cX12_goSeals 30 = .ok (.iload 5, 2) := by decide +kernel
theorem dX12_goSeals_32 : decode cX12_goSeals 32 = .ok (.iadd, 1) := by decide +kernel
theorem dX12_goSeals_33 : decode cX12_goSeals 33 = .ok (.istore 6, 2) := by decide +kernel
theorem dX12_goSeals_35 : decode cX12_goSeals 35 = .ok (.aload_n 0, 1) := by decide +kernel
theorem dX12_goSeals_36 : decode cX12_goSeals 36 = .ok (.getfield 150, 3) := by decide +kernel
theorem dX12_goSeals_39 : decode cX12_goSeals 39 = .ok (.iload 6, 2) := by decide +kernel
theorem dX12_goSeals_41 : decode cX12_goSeals 41 = .ok (.iaload, 1) := by decide +kernel
theorem dX12_goSeals_42 : decode cX12_goSeals 42 = .ok (.iconst 1, 1) := by decide +kernel
theorem dX12_goSeals_43 : decode cX12_goSeals 43 = .ok (.if_icmp .ne 22, 3) := by decide +kernel
theorem dX12_goSeals_46 : decode cX12_goSeals 46 = .ok (.iload_n 2, 1) := by decide +kernel
theorem dX12_goSeals_47 : decode cX12_goSeals 47 = .ok (.ifCond .ne 18, 3) := by decide +kernel
theorem dX12_goSeals_50 : decode cX12_goSeals 50 = .ok (.aload_n 0, 1) := by decide +kernel
theorem dX12_goSeals_51 : decode cX12_goSeals 51 = .ok (.getfield 153, 3) := by decide +kernel
theorem dX12_goSeals_54 : decode cX12_goSeals 54 = .ok (.iload 6, 2) := by decide +kernel
theorem dX12_goSeals_56 : decode cX12_goSeals 56 = .ok (.iaload, 1) := by decide +kernel
theorem dX12_goSeals_57 : decode cX12_goSeals 57 = .ok (.iload_n 3, 1) := by decide +kernel
theorem dX12_goSeals_58 : decode cX12_goSeals 58 = .ok (.if_icmp .eq 7, 3) := by decide +kernel
theorem dX12_goSeals_61 : decode cX12_goSeals 61 = .ok (.iconst 1, 1) := by decide +kernel
theorem dX12_goSeals_62 : decode cX12_goSeals 62 = .ok (.goto 4, 3) := by decide +kernel
theorem dX12_goSeals_65 : decode cX12_goSeals 65 = .ok (.iconst 0, 1) := by decide +kernel
theorem dX12_goSeals_66 : decode cX12_goSeals 66 = .ok (.istore 7, 2) := by decide +kernel
theorem dX12_goSeals_68 : decode cX12_goSeals 68 = .ok (.aload_n 0, 1) := by decide +kernel
theorem dX12_goSeals_69 : decode cX12_goSeals 69 = .ok (.getfield 150, 3) := by decide +kernel
theorem dX12_goSeals_72 : decode cX12_goSeals 72 = .ok (.iload 6, 2) := by decide +kernel
theorem dX12_goSeals_74 : decode cX12_goSeals 74 = .ok (.iaload, 1) := by decide +kernel
theorem dX12_goSeals_75 : decode cX12_goSeals 75 = .ok (.iconst 1, 1) := by decide +kernel
theorem dX12_goSeals_76 : decode cX12_goSeals 76 = .ok (.if_icmp .ne 12, 3) := by decide +kernel
theorem dX12_goSeals_79 : decode cX12_goSeals 79 = .ok (.iload_n 2, 1) := by decide +kernel
theorem dX12_goSeals_80 : decode cX12_goSeals 80 = .ok (.ifCond .ne 22, 3) := by decide +kernel
theorem dX12_goSeals_83 : decode cX12_goSeals 83 = .ok (.iload 7, 2) := by decide +kernel
theorem dX12_goSeals_85 : decode cX12_goSeals 85 = .ok (.ifCond .ne 17, 3) := by decide +kernel
theorem dX12_goSeals_88 : decode cX12_goSeals 88 = .ok (.aload_n 0, 1) := by decide +kernel
theorem dX12_goSeals_89 : decode cX12_goSeals 89 = .ok (.getfield 150, 3) := by decide +kernel
theorem dX12_goSeals_92 : decode cX12_goSeals 92 = .ok (.iload 6, 2) := by decide +kernel
theorem dX12_goSeals_94 : decode cX12_goSeals 94 = .ok (.iaload, 1) := by decide +kernel
theorem dX12_goSeals_95 : decode cX12_goSeals 95 = .ok (.ifCond .ne 11, 3) := by decide +kernel
theorem dX12_goSeals_98 : decode cX12_goSeals 98 = .ok (.iload_n 2, 1) := by decide +kernel
theorem dX12_goSeals_99 : decode cX12_goSeals 99 = .ok (.ifCond .ne 7, 3) := by decide +kernel
theorem dX12_goSeals_102 : decode cX12_goSeals 102 = .ok (.iconst 1, 1) := by decide +kernel
theorem dX12_goSeals_103 : decode cX12_goSeals 103 = .ok (.goto 4, 3) := by decide +kernel
theorem dX12_goSeals_106 : decode cX12_goSeals 106 = .ok (.iconst 0, 1) := by decide +kernel
theorem dX12_goSeals_107 : decode cX12_goSeals 107 = .ok (.istore 8, 2) := by decide +kernel
theorem dX12_goSeals_109 : decode cX12_goSeals 109 = .ok (.aload_n 0, 1) := by decide +kernel
theorem dX12_goSeals_110 : decode cX12_goSeals 110 = .ok (.getfield 156, 3) := by decide +kernel
theorem dX12_goSeals_113 : decode cX12_goSeals 113 = .ok (.iload 5, 2) := by decide +kernel
theorem dX12_goSeals_115 : decode cX12_goSeals 115 = .ok (.iload_n 2, 1) := by decide +kernel
theorem dX12_goSeals_116 : decode cX12_goSeals 116 = .ok (.ifCond .ne 8, 3) := by decide +kernel
theorem dX12_goSeals_119 : decode cX12_goSeals 119 = .ok (.iload 7, 2) := by decide +kernel
theorem dX12_goSeals_121 : decode cX12_goSeals 121 = .ok (.ifCond .eq 7, 3) := by decide +kernel
theorem dX12_goSeals_124 : decode cX12_goSeals 124 = .ok (.iconst 1, 1) := by decide +kernel
theorem dX12_goSeals_125 : decode cX12_goSeals 125 = .ok (.goto 4, 3) := by decide +kernel
theorem dX12_goSeals_128 : decode cX12_goSeals 128 = .ok (.iconst 0, 1) := by decide +kernel
theorem dX12_goSeals_129 : decode cX12_goSeals 129 = .ok (.bastore, 1) := by decide +kernel
theorem dX12_goSeals_130 : decode cX12_goSeals 130 = .ok (.aload_n 0, 1) := by decide +kernel
theorem dX12_goSeals_131 : decode cX12_goSeals 131 = .ok (.getfield 159, 3) := by decide +kernel
theorem dX12_goSeals_134 : decode cX12_goSeals 134 = .ok (.iload 5, 2) := by decide +kernel
theorem dX12_goSeals_136 : decode cX12_goSeals 136 = .ok (.iload 4, 2) := by decide +kernel
theorem dX12_goSeals_138 : decode cX12_goSeals 138 = .ok (.iastore, 1) := by decide +kernel
theorem dX12_goSeals_139 : decode cX12_goSeals 139 = .ok (.aload_n 0, 1) := by decide +kernel
theorem dX12_goSeals_140 : decode cX12_goSeals 140 = .ok (.dup, 1) := by decide +kernel
theorem dX12_goSeals_141 : decode cX12_goSeals 141 = .ok (.getfield 495, 3) := by decide +kernel
theorem dX12_goSeals_144 : decode cX12_goSeals 144 = .ok (.iload 8, 2) := by decide +kernel
theorem dX12_goSeals_146 : decode cX12_goSeals 146 = .ok (.ifCond .eq 10, 3) := by decide +kernel
theorem dX12_goSeals_149 : decode cX12_goSeals 149 = .ok (.iconst 1, 1) := by decide +kernel
theorem dX12_goSeals_150 : decode cX12_goSeals 150 = .ok (.iload 5, 2) := by decide +kernel
theorem dX12_goSeals_152 : decode cX12_goSeals 152 = .ok (.ishl, 1) := by decide +kernel
theorem dX12_goSeals_153 : decode cX12_goSeals 153 = .ok (.goto 4, 3) := by decide +kernel
theorem dX12_goSeals_156 : decode cX12_goSeals 156 = .ok (.iconst 0, 1) := by decide +kernel
theorem dX12_goSeals_157 : decode cX12_goSeals 157 = .ok (.ior, 1) := by decide +kernel
theorem dX12_goSeals_158 : decode cX12_goSeals 158 = .ok (.putfield 495, 3) := by decide +kernel
theorem dX12_goSeals_161 : decode cX12_goSeals 161 = .ok (.aload_n 0, 1) := by decide +kernel
theorem dX12_goSeals_162 : decode cX12_goSeals 162 = .ok (.getfield 150, 3) := by decide +kernel
theorem dX12_goSeals_165 : decode cX12_goSeals 165 = .ok (.iload 6, 2) := by decide +kernel
theorem dX12_goSeals_167 : decode cX12_goSeals 167 = .ok (.iaload, 1) := by decide +kernel
theorem dX12_goSeals_168 : decode cX12_goSeals 168 = .ok (.ifCond .ne 13, 3) := by decide +kernel
theorem dX12_goSeals_171 : decode cX12_goSeals 171 = .ok (.iconst 0, 1) := by decide +kernel
theorem dX12_goSeals_172 : decode cX12_goSeals 172 = .ok (.istore_n 2, 1) := by decide +kernel
theorem dX12_goSeals_173 : decode cX12_goSeals 173 = .ok (.aload_n 0, 1) := by decide +kernel
theorem dX12_goSeals_174 : decode cX12_goSeals 174 = .ok (.getfield 153, 3) := by decide +kernel
theorem dX12_goSeals_177 : decode cX12_goSeals 177 = .ok (.iload 6, 2) := by decide +kernel
theorem dX12_goSeals_179 : decode cX12_goSeals 179 = .ok (.iaload, 1) := by decide +kernel
theorem dX12_goSeals_180 : decode cX12_goSeals 180 = .ok (.istore_n 3, 1) := by decide +kernel
theorem dX12_goSeals_181 : decode cX12_goSeals 181 = .ok (.iload 7, 2) := by decide +kernel
theorem dX12_goSeals_183 : decode cX12_goSeals 183 = .ok (.ifCond .ne 14, 3) := by decide +kernel
theorem dX12_goSeals_186 : decode cX12_goSeals 186 = .ok (.aload_n 0, 1) := by decide +kernel
theorem dX12_goSeals_187 : decode cX12_goSeals 187 = .ok (.getfield 150, 3) := by decide +kernel
theorem dX12_goSeals_190 : decode cX12_goSeals 190 = .ok (.iload 6, 2) := by decide +kernel
theorem dX12_goSeals_192 : decode cX12_goSeals 192 = .ok (.iaload, 1) := by decide +kernel
theorem dX12_goSeals_193 : decode cX12_goSeals 193 = .ok (.iconst 2, 1) := by decide +kernel
theorem dX12_goSeals_194 : decode cX12_goSeals 194 = .ok (.if_icmp .ne 5, 3) := by decide +kernel
theorem dX12_goSeals_197 : decode cX12_goSeals 197 = .ok (.iconst 1, 1) := by decide +kernel
theorem dX12_goSeals_198 : decode cX12_goSeals 198 = .ok (.istore_n 2, 1) := by decide +kernel
theorem dX12_goSeals_199 : decode cX12_goSeals 199 = .ok (.aload_n 0, 1) := by decide +kernel
theorem dX12_goSeals_200 : decode cX12_goSeals 200 = .ok (.getfield 150, 3) := by decide +kernel
theorem dX12_goSeals_203 : decode cX12_goSeals 203 = .ok (.iload 6, 2) := by decide +kernel
theorem dX12_goSeals_205 : decode cX12_goSeals 205 = .ok (.iaload, 1) := by decide +kernel
theorem dX12_goSeals_206 : decode cX12_goSeals 206 = .ok (.iconst 3, 1) := by decide +kernel
theorem dX12_goSeals_207 : decode cX12_goSeals 207 = .ok (.if_icmp .ne 12, 3) := by decide +kernel
theorem dX12_goSeals_210 : decode cX12_goSeals 210 = .ok (.aload_n 0, 1) := by decide +kernel
theorem dX12_goSeals_211 : decode cX12_goSeals 211 = .ok (.getfield 153, 3) := by decide +kernel
theorem dX12_goSeals_214 : decode cX12_goSeals 214 = .ok (.iload 6, 2) := by decide +kernel
theorem dX12_goSeals_216 : decode cX12_goSeals 216 = .ok (.iaload, 1) := by decide +kernel
theorem dX12_goSeals_217 : decode cX12_goSeals 217 = .ok (.istore 4, 2) := by decide +kernel
theorem dX12_goSeals_219 : decode cX12_goSeals 219 = .ok (.iinc 5 1, 3) := by decide +kernel
theorem dX12_goSeals_222 : decode cX12_goSeals 222 = .ok (.goto (-207), 3) := by decide +kernel
theorem dX12_goSeals_225 : decode cX12_goSeals 225 = .ok (.aload_n 0, 1) := by decide +kernel
theorem dX12_goSeals_226 : decode cX12_goSeals 226 = .ok (.getfield 156, 3) := by decide +kernel
theorem dX12_goSeals_229 : decode cX12_goSeals 229 = .ok (.aload_n 0, 1) := by decide +kernel
theorem dX12_goSeals_230 : decode cX12_goSeals 230 = .ok (.getfield 144, 3) := by decide +kernel
theorem dX12_goSeals_233 : decode cX12_goSeals 233 = .ok (.iload_n 1, 1) := by decide +kernel
theorem dX12_goSeals_234 : decode cX12_goSeals 234 = .ok (.iaload, 1) := by decide +kernel
theorem dX12_goSeals_235 : decode cX12_goSeals 235 = .ok (.iload_n 2, 1) := by decide +kernel
theorem dX12_goSeals_236 : decode cX12_goSeals 236 = .ok (.bastore, 1) := by decide +kernel
theorem dX12_goSeals_237 : decode cX12_goSeals 237 = .ok (.aload_n 0, 1) := by decide +kernel
theorem dX12_goSeals_238 : decode cX12_goSeals 238 = .ok (.getfield 159, 3) := by decide +kernel
theorem dX12_goSeals_241 : decode cX12_goSeals 241 = .ok (.aload_n 0, 1) := by decide +kernel
theorem dX12_goSeals_242 : decode cX12_goSeals 242 = .ok (.getfield 144, 3) := by decide +kernel
theorem dX12_goSeals_245 : decode cX12_goSeals 245 = .ok (.iload_n 1, 1) := by decide +kernel
theorem dX12_goSeals_246 : decode cX12_goSeals 246 = .ok (.iaload, 1) := by decide +kernel
theorem dX12_goSeals_247 : decode cX12_goSeals 247 = .ok (.iload 4, 2) := by decide +kernel
theorem dX12_goSeals_249 : decode cX12_goSeals 249 = .ok (.iastore, 1) := by decide +kernel
theorem dX12_goSeals_250 : decode cX12_goSeals 250 = .ok (.return_, 1) := by decide +kernel
theorem dX12_badOnes_0 : decode cX12_badOnes 0 = .ok (.aload_n 0, 1) := by decide +kernel
theorem dX12_badOnes_1 : decode cX12_badOnes 1 = .ok (.iconst 0, 1) := by decide +kernel
theorem dX12_badOnes_2 : decode cX12_badOnes 2 = .ok (.putfield 180, 3) := by decide +kernel
theorem dX12_badOnes_5 : decode cX12_badOnes 5 = .ok (.aload_n 0, 1) := by decide +kernel
theorem dX12_badOnes_6 : decode cX12_badOnes 6 = .ok (.iload_n 1, 1) := by decide +kernel
theorem dX12_badOnes_7 : decode cX12_badOnes 7 = .ok (.invokevirtual 337, 3) := by decide +kernel
theorem dX12_badOnes_10 : decode cX12_badOnes 10 = .ok (.ifCond .ne 5, 3) := by decide +kernel
theorem dX12_badOnes_13 : decode cX12_badOnes 13 = .ok (.iconst (-1), 1) := by decide +kernel
theorem dX12_badOnes_14 : decode cX12_badOnes 14 = .ok (.ireturn, 1) := by decide +kernel
theorem dX12_badOnes_15 : decode cX12_badOnes 15 = .ok (.aload_n 0, 1) := by decide +kernel
theorem dX12_badOnes_16 : decode cX12_badOnes 16 = .ok (.iload_n 1, 1) := by decide +kernel
theorem dX12_badOnes_17 : decode cX12_badOnes 17 = .ok (.invokevirtual 498, 3) := by decide +kernel
theorem dX12_badOnes_20 : decode cX12_badOnes 20 = .ok (.aload_n 0, 1) := by decide +kernel
theorem dX12_badOnes_21 : decode cX12_badOnes 21 = .ok (.getfield 495, 3) := by decide +kernel
theorem dX12_badOnes_24 : decode cX12_badOnes 24 = .ok (.ireturn, 1) := by decide +kernel
theorem dX12_openWithin_0 : decode cX12_openWithin 0 = .ok (.aload_n 0, 1) := by decide +kernel
theorem dX12_openWithin_1 : decode cX12_openWithin 1 = .ok (.iload_n 1, 1) := by decide +kernel
theorem dX12_openWithin_2 : decode cX12_openWithin 2 = .ok (.invokevirtual 498, 3) := by decide +kernel
theorem dX12_openWithin_5 : decode cX12_openWithin 5 = .ok (.iconst 0, 1) := by decide +kernel
theorem dX12_openWithin_6 : decode cX12_openWithin 6 = .ok (.istore 5, 2) := by decide +kernel
theorem dX12_openWithin_8 : decode cX12_openWithin 8 = .ok (.iconst 0, 1) := by decide +kernel
theorem dX12_openWithin_9 : decode cX12_openWithin 9 = .ok (.istore 6, 2) := by decide +kernel
theorem dX12_openWithin_11 : decode cX12_openWithin 11 = .ok (.iload 6, 2) := by decide +kernel
theorem dX12_openWithin_13 : decode cX12_openWithin 13 = .ok (.aload_n 0, 1) := by decide +kernel
theorem dX12_openWithin_14 : decode cX12_openWithin 14 = .ok (.getfield 144, 3) := by decide +kernel
theorem dX12_openWithin_17 : decode cX12_openWithin 17 = .ok (.iload_n 1, 1) := by decide +kernel
theorem dX12_openWithin_18 : decode cX12_openWithin 18 = .ok (.iaload, 1) := by decide +kernel
theorem dX12_openWithin_19 : decode cX12_openWithin 19 = .ok (.if_icmp .gt 109, 3) := by decide +kernel
theorem dX12_openWithin_22 : decode cX12_openWithin 22 = .ok (.iload 6, 2) := by decide +kernel
theorem dX12_openWithin_24 : decode cX12_openWithin 24 = .ok (.ifCond .ne 7, 3) := by decide +kernel
theorem dX12_openWithin_27 : decode cX12_openWithin 27 = .ok (.iconst 0, 1) := by decide +kernel
theorem dX12_openWithin_28 : decode cX12_openWithin 28 = .ok (.goto 17, 3) := by decide +kernel
theorem dX12_openWithin_31 : decode cX12_openWithin 31 = .ok (.aload_n 0, 1) := by decide +kernel
theorem dX12_openWithin_32 : decode cX12_openWithin 32 = .ok (.getfield 147, 3) := by decide +kernel
theorem dX12_openWithin_35 : decode cX12_openWithin 35 = .ok (.bipush 20, 2) := by decide +kernel
theorem dX12_openWithin_37 : decode cX12_openWithin 37 = .ok (.iload_n 1, 1) := by decide +kernel
theorem dX12_openWithin_38 : decode cX12_openWithin 38 = .ok (.imul, 1) := by decide +kernel
theorem dX12_openWithin_39 : decode cX12_openWithin 39 = .ok (.iload 6, 2) := by decide +kernel
theorem dX12_openWithin_41 : decode cX12_openWithin 41 = .ok (.iadd, 1) := by decide +kernel
theorem dX12_openWithin_42 : decode cX12_openWithin 42 = .ok (.iconst 1, 1) := by decide +kernel
theorem dX12_openWithin_43 : decode cX12_openWithin 43 = .ok (.isub, 1) := by decide +kernel
theorem dX12_openWithin_44 : decode cX12_openWithin 44 = .ok (.iaload, 1) := by decide +kernel
theorem dX12_openWithin_45 : decode cX12_openWithin 45 = .ok (.istore 7, 2) := by decide +kernel
theorem dX12_openWithin_47 : decode cX12_openWithin 47 = .ok (.iload 6, 2) := by decide +kernel
theorem dX12_openWithin_49 : decode cX12_openWithin 49 = .ok (.aload_n 0, 1) := by decide +kernel
theorem dX12_openWithin_50 : decode cX12_openWithin 50 = .ok (.getfield 144, 3) := by decide +kernel
theorem dX12_openWithin_53 : decode cX12_openWithin 53 = .ok (.iload_n 1, 1) := by decide +kernel
theorem dX12_openWithin_54 : decode cX12_openWithin 54 = .ok (.iaload, 1) := by decide +kernel
theorem dX12_openWithin_55 : decode cX12_openWithin 55 = .ok (.if_icmp .ne 9, 3) := by decide +kernel
theorem dX12_openWithin_58 : decode cX12_openWithin 58 = .ok (.sipush 9999, 3) := by decide +kernel
theorem dX12_openWithin_61 : decode cX12_openWithin 61 = .ok (.goto 15, 3) := by decide +kernel
theorem dX12_openWithin_64 : decode cX12_openWithin 64 = .ok (.aload_n 0, 1) := by decide +kernel
theorem dX12_openWithin_65 : decode cX12_openWithin 65 = .ok (.getfield 147, 3) := by decide +kernel
theorem dX12_openWithin_68 : decode cX12_openWithin 68 = .ok (.bipush 20, 2) := by decide +kernel
theorem dX12_openWithin_70 : decode cX12_openWithin 70 = .ok (.iload_n 1, 1) := by decide +kernel
theorem dX12_openWithin_71 : decode cX12_openWithin 71 = .ok (.imul, 1) := by decide +kernel
theorem dX12_openWithin_72 : decode cX12_openWithin 72 = .ok (.iload 6, 2) := by decide +kernel
theorem dX12_openWithin_74 : decode cX12_openWithin 74 = .ok (.iadd, 1) := by decide +kernel
theorem dX12_openWithin_75 : decode cX12_openWithin 75 = .ok (.iaload, 1) := by decide +kernel
theorem dX12_openWithin_76 : decode cX12_openWithin 76 = .ok (.istore 8, 2) := by decide +kernel
theorem dX12_openWithin_78 : decode cX12_openWithin 78 = .ok (.aload_n 0, 1) := by decide +kernel
theorem dX12_openWithin_79 : decode cX12_openWithin 79 = .ok (.getfield 156, 3) := by decide +kernel
theorem dX12_openWithin_82 : decode cX12_openWithin 82 = .ok (.iload 6, 2) := by decide +kernel
theorem dX12_openWithin_84 : decode cX12_openWithin 84 = .ok (.baload, 1) := by decide +kernel
theorem dX12_openWithin_85 : decode cX12_openWithin 85 = .ok (.ifCond .eq 37, 3) := by decide +kernel
theorem dX12_openWithin_88 : decode cX12_openWithin 88 = .ok (.aload_n 0, 1) := by decide +kernel
theorem dX12_openWithin_89 : decode cX12_openWithin 89 = .ok (.getfield 159, 3) := by decide +kernel
theorem dX12_openWithin_92 : decode cX12_openWithin 92 = .ok (.iload 6, 2) := by decide +kernel
theorem dX12_openWithin_94 : decode cX12_openWithin 94 = .ok (.iaload, 1) := by decide +kernel
theorem dX12_openWithin_95 : decode cX12_openWithin 95 = .ok (.iload 4, 2) := by decide +kernel
theorem dX12_openWithin_97 : decode cX12_openWithin 97 = .ok (.if_icmp .eq 25, 3) := by decide +kernel
theorem dX12_openWithin_100 : decode cX12_openWithin 100 = .ok (.iload 5, 2) := by decide +kernel
theorem dX12_openWithin_102 : decode cX12_openWithin 102 = .ok (.iconst 0, 1) := by decide +kernel
theorem dX12_openWithin_103 : decode cX12_openWithin 103 = .ok (.iload_n 3, 1) := by decide +kernel
theorem dX12_openWithin_104 : decode cX12_openWithin 104 = .ok (.iload 8, 2) := by decide +kernel
theorem dX12_openWithin_106 : decode cX12_openWithin 106 = .ok (.invokestatic 168, 3) := by decide +kernel
theorem dX12_openWithin_109 : decode cX12_openWithin 109 = .ok (.iload_n 2, 1) := by decide +kernel
theorem dX12_openWithin_110 : decode cX12_openWithin 110 = .ok (.iload 7, 2) := by decide +kernel
theorem dX12_openWithin_112 : decode cX12_openWithin 112 = .ok (.invokestatic 174, 3) := by decide +kernel
theorem dX12_openWithin_115 : decode cX12_openWithin 115 = .ok (.isub, 1) := by decide +kernel
theorem dX12_openWithin_116 : decode cX12_openWithin 116 = .ok (.invokestatic 174, 3) := by decide +kernel
theorem dX12_openWithin_119 : decode cX12_openWithin 119 = .ok (.iadd, 1) := by decide +kernel
theorem dX12_openWithin_120 : decode cX12_openWithin 120 = .ok (.istore 5, 2) := by decide +kernel
theorem dX12_openWithin_122 : decode cX12_openWithin 122 = .ok (.iinc 6 1, 3) := by decide +kernel
theorem dX12_openWithin_125 : decode cX12_openWithin 125 = .ok (.goto (-114), 3) := by decide +kernel
theorem dX12_openWithin_128 : decode cX12_openWithin 128 = .ok (.iload 5, 2) := by decide +kernel
theorem dX12_openWithin_130 : decode cX12_openWithin 130 = .ok (.ireturn, 1) := by decide +kernel
theorem dX12_isSpan_0 : decode cX12_isSpan 0 = .ok (.iload_n 0, 1) := by decide +kernel
theorem dX12_isSpan_1 : decode cX12_isSpan 1 = .ok (.iconst 0, 1) := by decide +kernel
theorem dX12_isSpan_2 : decode cX12_isSpan 2 = .ok (.sipush 9999, 3) := by decide +kernel
theorem dX12_isSpan_5 : decode cX12_isSpan 5 = .ok (.invokestatic 196, 3) := by decide +kernel
theorem dX12_isSpan_8 : decode cX12_isSpan 8 = .ok (.ifCond .eq 20, 3) := by decide +kernel
theorem dX12_isSpan_11 : decode cX12_isSpan 11 = .ok (.iload_n 1, 1) := by decide +kernel
theorem dX12_isSpan_12 : decode cX12_isSpan 12 = .ok (.iload_n 0, 1) := by decide +kernel
theorem dX12_isSpan_13 : decode cX12_isSpan 13 = .ok (.iconst 1, 1) := by decide +kernel
theorem dX12_isSpan_14 : decode cX12_isSpan 14 = .ok (.iadd, 1) := by decide +kernel
theorem dX12_isSpan_15 : decode cX12_isSpan 15 = .ok (.sipush 9999, 3) := by decide +kernel
theorem dX12_isSpan_18 : decode cX12_isSpan 18 = .ok (.invokestatic 196, 3) := by decide +kernel
theorem dX12_isSpan_21 : decode cX12_isSpan 21 = .ok (.ifCond .eq 7, 3) := by decide +kernel
theorem dX12_isSpan_24 : decode cX12_isSpan 24 = .ok (.iconst 1, 1) := by decide +kernel
theorem dX12_isSpan_25 : decode cX12_isSpan 25 = .ok (.goto 4, 3) := by decide +kernel
theorem dX12_isSpan_28 : decode cX12_isSpan 28 = .ok (.iconst 0, 1) := by decide +kernel
theorem dX12_isSpan_29 : decode cX12_isSpan 29 = .ok (.ireturn, 1) := by decide +kernel
theorem dX12_exposed_0 : decode cX12_exposed 0 = .ok (.aload_n 0, 1) := by decide +kernel
theorem dX12_exposed_1 : decode cX12_exposed 1 = .ok (.iconst 0, 1) := by decide +kernel
theorem dX12_exposed_2 : decode cX12_exposed 2 = .ok (.putfield 180, 3) := by decide +kernel
theorem dX12_exposed_5 : decode cX12_exposed 5 = .ok (.aload_n 0, 1) := by decide +kernel
theorem dX12_exposed_6 : decode cX12_exposed 6 = .ok (.iload_n 1, 1) := by decide +kernel
theorem dX12_exposed_7 : decode cX12_exposed 7 = .ok (.invokevirtual 337, 3) := by decide +kernel
theorem dX12_exposed_10 : decode cX12_exposed 10 = .ok (.ifCond .eq 22, 3) := by decide +kernel
theorem dX12_exposed_13 : decode cX12_exposed 13 = .ok (.iload_n 2, 1) := by decide +kernel
theorem dX12_exposed_14 : decode cX12_exposed 14 = .ok (.iload_n 3, 1) := by decide +kernel
theorem dX12_exposed_15 : decode cX12_exposed 15 = .ok (.invokestatic 501, 3) := by decide +kernel
theorem dX12_exposed_18 : decode cX12_exposed 18 = .ok (.ifCond .eq 14, 3) := by decide +kernel
theorem dX12_exposed_21 : decode cX12_exposed 21 = .ok (.aload_n 0, 1) := by decide +kernel
theorem dX12_exposed_22 : decode cX12_exposed 22 = .ok (.iload_n 1, 1) := by decide +kernel
theorem dX12_exposed_23 : decode cX12_exposed 23 = .ok (.iload_n 2, 1) := by decide +kernel
theorem dX12_exposed_24 : decode cX12_exposed 24 = .ok (.iload_n 3, 1) := by decide +kernel
theorem dX12_exposed_25 : decode cX12_exposed 25 = .ok (.iconst (-1), 1) := by decide +kernel
theorem dX12_exposed_26 : decode cX12_exposed 26 = .ok (.invokevirtual 504, 3) := by decide +kernel
theorem dX12_exposed_29 : decode cX12_exposed 29 = .ok (.goto 4, 3) := by decide +kernel
theorem dX12_exposed_32 : decode cX12_exposed 32 = .ok (.iconst (-1), 1) := by decide +kernel
theorem dX12_exposed_33 : decode cX12_exposed 33 = .ok (.ireturn, 1) := by decide +kernel
theorem dX12_placeAt_0 : decode cX12_placeAt 0 = .ok (.aload_n 0, 1) := by decide +kernel
theorem dX12_placeAt_1 : decode cX12_placeAt 1 = .ok (.iconst 0, 1) := by decide +kernel
theorem dX12_placeAt_2 : decode cX12_placeAt 2 = .ok (.putfield 180, 3) := by decide +kernel
theorem dX12_placeAt_5 : decode cX12_placeAt 5 = .ok (.aload_n 0, 1) := by decide +kernel
theorem dX12_placeAt_6 : decode cX12_placeAt 6 = .ok (.iload_n 1, 1) := by decide +kernel
theorem dX12_placeAt_7 : decode cX12_placeAt 7 = .ok (.invokevirtual 337, 3) := by decide +kernel
theorem dX12_placeAt_10 : decode cX12_placeAt 10 = .ok (.ifCond .eq 14, 3) := by decide +kernel
theorem dX12_placeAt_13 : decode cX12_placeAt 13 = .ok (.iload_n 2, 1) := by decide +kernel
theorem dX12_placeAt_14 : decode cX12_placeAt 14 = .ok (.iconst 0, 1) := by decide +kernel
theorem dX12_placeAt_15 : decode cX12_placeAt 15 = .ok (.sipush 9999, 3) := by decide +kernel
theorem dX12_placeAt_18 : decode cX12_placeAt 18 = .ok (.invokestatic 196, 3) := by decide +kernel
theorem dX12_placeAt_21 : decode cX12_placeAt 21 = .ok (.ifCond .ne 5, 3) := by decide +kernel
theorem dX12_placeAt_24 : decode cX12_placeAt 24 = .ok (.iconst (-1), 1) := by decide +kernel
theorem dX12_placeAt_25 : decode cX12_placeAt 25 = .ok (.ireturn, 1) := by decide +kernel
theorem dX12_placeAt_26 : decode cX12_placeAt 26 = .ok (.iconst 0, 1) := by decide +kernel
theorem dX12_placeAt_27 : decode cX12_placeAt 27 = .ok (.istore_n 3, 1) := by decide +kernel
theorem dX12_placeAt_28 : decode cX12_placeAt 28 = .ok (.bipush 20, 2) := by decide +kernel
theorem dX12_placeAt_30 : decode cX12_placeAt 30 = .ok (.iload_n 1, 1) := by decide +kernel
theorem dX12_placeAt_31 : decode cX12_placeAt 31 = .ok (.imul, 1) := by decide +kernel
theorem dX12_placeAt_32 : decode cX12_placeAt 32 = .ok (.istore 4, 2) := by decide +kernel
theorem dX12_placeAt_34 : decode cX12_placeAt 34 = .ok (.iload 4, 2) := by decide +kernel
theorem dX12_placeAt_36 : decode cX12_placeAt 36 = .ok (.bipush 20, 2) := by decide +kernel
theorem dX12_placeAt_38 : decode cX12_placeAt 38 = .ok (.iload_n 1, 1) := by decide +kernel
theorem dX12_placeAt_39 : decode cX12_placeAt 39 = .ok (.imul, 1) := by decide +kernel
theorem dX12_placeAt_40 : decode cX12_placeAt 40 = .ok (.aload_n 0, 1) := by decide +kernel
theorem dX12_placeAt_41 : decode cX12_placeAt 41 = .ok (.getfield 144, 3) := by decide +kernel
theorem dX12_placeAt_44 : decode cX12_placeAt 44 = .ok (.iload_n 1, 1) := by decide +kernel
theorem dX12_placeAt_45 : decode cX12_placeAt 45 = .ok (.iaload, 1) := by decide +kernel
theorem dX12_placeAt_46 : decode cX12_placeAt 46 = .ok (.iadd, 1) := by decide +kernel
theorem dX12_placeAt_47 : decode cX12_placeAt 47 = .ok (.if_icmp .ge 39, 3) := by decide +kernel
theorem dX12_placeAt_50 : decode cX12_placeAt 50 = .ok (.aload_n 0, 1) := by decide +kernel
theorem dX12_placeAt_51 : decode cX12_placeAt 51 = .ok (.getfield 150, 3) := by decide +kernel
theorem dX12_placeAt_54 : decode cX12_placeAt 54 = .ok (.iload 4, 2) := by decide +kernel
theorem dX12_placeAt_56 : decode cX12_placeAt 56 = .ok (.iaload, 1) := by decide +kernel
theorem dX12_placeAt_57 : decode cX12_placeAt 57 = .ok (.iconst 3, 1) := by decide +kernel
theorem dX12_placeAt_58 : decode cX12_placeAt 58 = .ok (.if_icmp .ne 22, 3) := by decide +kernel
theorem dX12_placeAt_61 : decode cX12_placeAt 61 = .ok (.aload_n 0, 1) := by decide +kernel
theorem dX12_placeAt_62 : decode cX12_placeAt 62 = .ok (.getfield 147, 3) := by decide +kernel
theorem dX12_placeAt_65 : decode cX12_placeAt 65 = .ok (.iload 4, 2) := by decide +kernel
theorem dX12_placeAt_67 : decode cX12_placeAt 67 = .ok (.iaload, 1) := by decide +kernel
theorem dX12_placeAt_68 : decode cX12_placeAt 68 = .ok (.iload_n 2, 1) := by decide +kernel
theorem dX12_placeAt_69 : decode cX12_placeAt 69 = .ok (.if_icmp .gt 11, 3) := by decide +kernel
theorem dX12_placeAt_72 : decode cX12_placeAt 72 = .ok (.aload_n 0, 1) := by decide +kernel
theorem dX12_placeAt_73 : decode cX12_placeAt 73 = .ok (.getfield 153, 3) := by decide +kernel
theorem dX12_placeAt_76 : decode cX12_placeAt 76 = .ok (.iload 4, 2) := by decide +kernel
theorem dX12_placeAt_78 : decode cX12_placeAt 78 = .ok (.iaload, 1) := by decide +kernel
theorem dX12_placeAt_79 : decode cX12_placeAt 79 = .ok (.istore_n 3, 1) := by decide +kernel
theorem dX12_placeAt_80 : decode cX12_placeAt 80 = .ok (.iinc 4 1, 3) := by decide +kernel
theorem dX12_placeAt_83 : decode cX12_placeAt 83 = .ok (.goto (-49), 3) := by decide +kernel
theorem dX12_placeAt_86 : decode cX12_placeAt 86 = .ok (.iload_n 3, 1) := by decide +kernel
theorem dX12_placeAt_87 : decode cX12_placeAt 87 = .ok (.ireturn, 1) := by decide +kernel
theorem dX12_alone_0 : decode cX12_alone 0 = .ok (.aload_n 0, 1) := by decide +kernel
theorem dX12_alone_1 : decode cX12_alone 1 = .ok (.iconst 0, 1) := by decide +kernel
theorem dX12_alone_2 : decode cX12_alone 2 = .ok (.putfield 180, 3) := by decide +kernel
theorem dX12_alone_5 : decode cX12_alone 5 = .ok (.aload_n 0, 1) := by decide +kernel
theorem dX12_alone_6 : decode cX12_alone 6 = .ok (.iload_n 1, 1) := by decide +kernel
theorem dX12_alone_7 : decode cX12_alone 7 = .ok (.invokevirtual 337, 3) := by decide +kernel
theorem dX12_alone_10 : decode cX12_alone 10 = .ok (.ifCond .eq 34, 3) := by decide +kernel
theorem dX12_alone_13 : decode cX12_alone 13 = .ok (.iload_n 2, 1) := by decide +kernel
theorem dX12_alone_14 : decode cX12_alone 14 = .ok (.iconst 0, 1) := by decide +kernel
theorem dX12_alone_15 : decode cX12_alone 15 = .ok (.bipush 9, 2) := by decide +kernel
theorem dX12_alone_17 : decode cX12_alone 17 = .ok (.invokestatic 196, 3) := by decide +kernel
theorem dX12_alone_20 : decode cX12_alone 20 = .ok (.ifCond .eq 24, 3) := by decide +kernel
theorem dX12_alone_23 : decode cX12_alone 23 = .ok (.iload_n 3, 1) := by decide +kernel
theorem dX12_alone_24 : decode cX12_alone 24 = .ok (.iload 4, 2) := by decide +kernel
theorem dX12_alone_26 : decode cX12_alone 26 = .ok (.invokestatic 501, 3) := by decide +kernel
theorem dX12_alone_29 : decode cX12_alone 29 = .ok (.ifCond .eq 15, 3) := by decide +kernel
theorem dX12_alone_32 : decode cX12_alone 32 = .ok (.aload_n 0, 1) := by decide +kernel
theorem dX12_alone_33 : decode cX12_alone 33 = .ok (.iload_n 1, 1) := by decide +kernel
theorem dX12_alone_34 : decode cX12_alone 34 = .ok (.iload_n 3, 1) := by decide +kernel
theorem dX12_alone_35 : decode cX12_alone 35 = .ok (.iload 4, 2) := by decide +kernel
theorem dX12_alone_37 : decode cX12_alone 37 = .ok (.iload_n 2, 1) := by decide +kernel
theorem dX12_alone_38 : decode cX12_alone 38 = .ok (.invokevirtual 504, 3) := by decide +kernel
theorem dX12_alone_41 : decode cX12_alone 41 = .ok (.goto 4, 3) := by decide +kernel
theorem dX12_alone_44 : decode cX12_alone 44 = .ok (.iconst (-1), 1) := by decide +kernel
theorem dX12_alone_45 : decode cX12_alone 45 = .ok (.ireturn, 1) := by decide +kernel
theorem dX12_isCounter_0 : decode cX12_isCounter 0 = .ok (.aload_n 0, 1) := by decide +kernel
theorem dX12_isCounter_1 : decode cX12_isCounter 1 = .ok (.iload_n 1, 1) := by decide +kernel
theorem dX12_isCounter_2 : decode cX12_isCounter 2 = .ok (.invokevirtual 337, 3) := by decide +kernel
theorem dX12_isCounter_5 : decode cX12_isCounter 5 = .ok (.ifCond .eq 15, 3) := by decide +kernel
theorem dX12_isCounter_8 : decode cX12_isCounter 8 = .ok (.aload_n 0, 1) := by decide +kernel
theorem dX12_isCounter_9 : decode cX12_isCounter 9 = .ok (.iload_n 2, 1) := by decide +kernel
theorem dX12_isCounter_10 : decode cX12_isCounter 10 = .ok (.invokevirtual 343, 3) := by decide +kernel
theorem dX12_isCounter_13 : decode cX12_isCounter 13 = .ok (.ifCond .eq 7, 3) := by decide +kernel
theorem dX12_isCounter_16 : decode cX12_isCounter 16 = .ok (.iconst 1, 1) := by decide +kernel
theorem dX12_isCounter_17 : decode cX12_isCounter 17 = .ok (.goto 4, 3) := by decide +kernel
theorem dX12_isCounter_20 : decode cX12_isCounter 20 = .ok (.iconst 0, 1) := by decide +kernel
theorem dX12_isCounter_21 : decode cX12_isCounter 21 = .ok (.ireturn, 1) := by decide +kernel
theorem dX12_recount_0 : decode cX12_recount 0 = .ok (.aload_n 0, 1) := by decide +kernel
theorem dX12_recount_1 : decode cX12_recount 1 = .ok (.iconst 0, 1) := by decide +kernel
theorem dX12_recount_2 : decode cX12_recount 2 = .ok (.putfield 180, 3) := by decide +kernel
theorem dX12_recount_5 : decode cX12_recount 5 = .ok (.aload_n 0, 1) := by decide +kernel
theorem dX12_recount_6 : decode cX12_recount 6 = .ok (.iload_n 1, 1) := by decide +kernel
theorem dX12_recount_7 : decode cX12_recount 7 = .ok (.iload_n 2, 1) := by decide +kernel
theorem dX12_recount_8 : decode cX12_recount 8 = .ok (.invokevirtual 507, 3) := by decide +kernel
theorem dX12_recount_11 : decode cX12_recount 11 = .ok (.ifCond .eq 26, 3) := by decide +kernel
theorem dX12_recount_14 : decode cX12_recount 14 = .ok (.iload_n 3, 1) := by decide +kernel
theorem dX12_recount_15 : decode cX12_recount 15 = .ok (.invokestatic 334, 3) := by decide +kernel
theorem dX12_recount_18 : decode cX12_recount 18 = .ok (.ifCond .eq 19, 3) := by decide +kernel
theorem dX12_recount_21 : decode cX12_recount 21 = .ok (.aload_n 0, 1) := by decide +kernel
theorem dX12_recount_22 : decode cX12_recount 22 = .ok (.getfield 162, 3) := by decide +kernel
theorem dX12_recount_25 : decode cX12_recount 25 = .ok (.bipush 16, 2) := by decide +kernel
theorem dX12_recount_27 : decode cX12_recount 27 = .ok (.iload_n 1, 1) := by decide +kernel
theorem dX12_recount_28 : decode cX12_recount 28 = .ok (.imul, 1) := by decide +kernel
theorem dX12_recount_29 : decode cX12_recount 29 = .ok (.iload_n 2, 1) := by decide +kernel
theorem dX12_recount_30 : decode cX12_recount 30 = .ok (.iadd, 1) := by decide +kernel
theorem dX12_recount_31 : decode cX12_recount 31 = .ok (.iaload, 1) := by decide +kernel
theorem dX12_recount_32 : decode cX12_recount 32 = .ok (.bipush 8, 2) := by decide +kernel
theorem dX12_recount_34 : decode cX12_recount 34 = .ok (.if_icmp .ne 5, 3) := by decide +kernel
theorem dX12_recount_37 : decode cX12_recount 37 = .ok (.iconst (-1), 1) := by decide +kernel
theorem dX12_recount_38 : decode cX12_recount 38 = .ok (.ireturn, 1) := by decide +kernel
theorem dX12_recount_39 : decode cX12_recount 39 = .ok (.bipush 16, 2) := by decide +kernel
theorem dX12_recount_41 : decode cX12_recount 41 = .ok (.iload_n 1, 1) := by decide +kernel
theorem dX12_recount_42 : decode cX12_recount 42 = .ok (.imul, 1) := by decide +kernel
theorem dX12_recount_43 : decode cX12_recount 43 = .ok (.iload_n 2, 1) := by decide +kernel
theorem dX12_recount_44 : decode cX12_recount 44 = .ok (.iadd, 1) := by decide +kernel
theorem dX12_recount_45 : decode cX12_recount 45 = .ok (.istore 4, 2) := by decide +kernel
theorem dX12_recount_47 : decode cX12_recount 47 = .ok (.aload_n 0, 1) := by decide +kernel
theorem dX12_recount_48 : decode cX12_recount 48 = .ok (.getfield 165, 3) := by decide +kernel
theorem dX12_recount_51 : decode cX12_recount 51 = .ok (.bipush 8, 2) := by decide +kernel
theorem dX12_recount_53 : decode cX12_recount 53 = .ok (.iload 4, 2) := by decide +kernel
theorem dX12_recount_55 : decode cX12_recount 55 = .ok (.imul, 1) := by decide +kernel
theorem dX12_recount_56 : decode cX12_recount 56 = .ok (.aload_n 0, 1) := by decide +kernel
theorem dX12_recount_57 : decode cX12_recount 57 = .ok (.getfield 162, 3) := by decide +kernel
theorem dX12_recount_60 : decode cX12_recount 60 = .ok (.iload 4, 2) := by decide +kernel
theorem dX12_recount_62 : decode cX12_recount 62 = .ok (.iaload, 1) := by decide +kernel
theorem dX12_recount_63 : decode cX12_recount 63 = .ok (.iadd, 1) := by decide +kernel
theorem dX12_recount_64 : decode cX12_recount 64 = .ok (.iload_n 3, 1) := by decide +kernel
theorem dX12_recount_65 : decode cX12_recount 65 = .ok (.iastore, 1) := by decide +kernel
theorem dX12_recount_66 : decode cX12_recount 66 = .ok (.aload_n 0, 1) := by decide +kernel
theorem dX12_recount_67 : decode cX12_recount 67 = .ok (.getfield 162, 3) := by decide +kernel
theorem dX12_recount_70 : decode cX12_recount 70 = .ok (.iload 4, 2) := by decide +kernel
theorem dX12_recount_72 : decode cX12_recount 72 = .ok (.dup2, 1) := by decide +kernel
theorem dX12_recount_73 : decode cX12_recount 73 = .ok (.iaload, 1) := by decide +kernel
theorem dX12_recount_74 : decode cX12_recount 74 = .ok (.iconst 1, 1) := by decide +kernel
theorem dX12_recount_75 : decode cX12_recount 75 = .ok (.iadd, 1) := by decide +kernel
theorem dX12_recount_76 : decode cX12_recount 76 = .ok (.iastore, 1) := by decide +kernel
theorem dX12_recount_77 : decode cX12_recount 77 = .ok (.aload_n 0, 1) := by decide +kernel
theorem dX12_recount_78 : decode cX12_recount 78 = .ok (.getfield 162, 3) := by decide +kernel
theorem dX12_recount_81 : decode cX12_recount 81 = .ok (.iload 4, 2) := by decide +kernel
theorem dX12_recount_83 : decode cX12_recount 83 = .ok (.iaload, 1) := by decide +kernel
theorem dX12_recount_84 : decode cX12_recount 84 = .ok (.ireturn, 1) := by decide +kernel
theorem dX12_kept_0 : decode cX12_kept 0 = .ok (.aload_n 0, 1) := by decide +kernel
theorem dX12_kept_1 : decode cX12_kept 1 = .ok (.iconst 0, 1) := by decide +kernel
theorem dX12_kept_2 : decode cX12_kept 2 = .ok (.putfield 180, 3) := by decide +kernel
theorem dX12_kept_5 : decode cX12_kept 5 = .ok (.aload_n 0, 1) := by decide +kernel
theorem dX12_kept_6 : decode cX12_kept 6 = .ok (.iload_n 1, 1) := by decide +kernel
theorem dX12_kept_7 : decode cX12_kept 7 = .ok (.iload_n 2, 1) := by decide +kernel
theorem dX12_kept_8 : decode cX12_kept 8 = .ok (.invokevirtual 507, 3) := by decide +kernel
theorem dX12_kept_11 : decode cX12_kept 11 = .ok (.ifCond .eq 43, 3) := by decide +kernel
theorem dX12_kept_14 : decode cX12_kept 14 = .ok (.iload_n 3, 1) := by decide +kernel
theorem dX12_kept_15 : decode cX12_kept 15 = .ok (.iconst 0, 1) := by decide +kernel
theorem dX12_kept_16 : decode cX12_kept 16 = .ok (.aload_n 0, 1) := by decide +kernel
theorem dX12_kept_17 : decode cX12_kept 17 = .ok (.getfield 162, 3) := by decide +kernel
theorem dX12_kept_20 : decode cX12_kept 20 = .ok (.bipush 16, 2) := by decide +kernel
theorem dX12_kept_22 : decode cX12_kept 22 = .ok (.iload_n 1, 1) := by decide +kernel
theorem dX12_kept_23 : decode cX12_kept 23 = .ok (.imul, 1) := by decide +kernel
theorem dX12_kept_24 : decode cX12_kept 24 = .ok (.iload_n 2, 1) := by decide +kernel
theorem dX12_kept_25 : decode cX12_kept 25 = .ok (.iadd, 1) := by decide +kernel
theorem dX12_kept_26 : decode cX12_kept 26 = .ok (.iaload, 1) := by decide +kernel
theorem dX12_kept_27 : decode cX12_kept 27 = .ok (.iconst 1, 1) := by decide +kernel
theorem dX12_kept_28 : decode cX12_kept 28 = .ok (.isub, 1) := by decide +kernel
theorem dX12_kept_29 : decode cX12_kept 29 = .ok (.invokestatic 196, 3) := by decide +kernel
theorem dX12_kept_32 : decode cX12_kept 32 = .ok (.ifCond .eq 22, 3) := by decide +kernel
theorem dX12_kept_35 : decode cX12_kept 35 = .ok (.aload_n 0, 1) := by decide +kernel
theorem dX12_kept_36 : decode cX12_kept 36 = .ok (.getfield 165, 3) := by decide +kernel
theorem dX12_kept_39 : decode cX12_kept 39 = .ok (.bipush 8, 2) := by decide +kernel
theorem dX12_kept_41 : decode cX12_kept 41 = .ok (.bipush 16, 2) := by decide +kernel
theorem dX12_kept_43 : decode cX12_kept 43 = .ok (.iload_n 1, 1) := by decide +kernel
theorem dX12_kept_44 : decode cX12_kept 44 = .ok (.imul, 1) := by decide +kernel
theorem dX12_kept_45 : decode cX12_kept 45 = .ok (.iload_n 2, 1) := by decide +kernel
theorem dX12_kept_46 : decode cX12_kept 46 = .ok (.iadd, 1) := by decide +kernel
theorem dX12_kept_47 : decode cX12_kept 47 = .ok (.imul, 1) := by decide +kernel
theorem dX12_kept_48 : decode cX12_kept 48 = .ok (.iload_n 3, 1) := by decide +kernel
theorem dX12_kept_49 : decode cX12_kept 49 = .ok (.iadd, 1) := by decide +kernel
theorem dX12_kept_50 : decode cX12_kept 50 = .ok (.iaload, 1) := by decide +kernel
theorem dX12_kept_51 : decode cX12_kept 51 = .ok (.goto 4, 3) := by decide +kernel
theorem dX12_kept_54 : decode cX12_kept 54 = .ok (.iconst (-1), 1) := by decide +kernel
theorem dX12_kept_55 : decode cX12_kept 55 = .ok (.ireturn, 1) := by decide +kernel
theorem dX12_changed_0 : decode cX12_changed 0 = .ok (.aload_n 0, 1) := by decide +kernel
theorem dX12_changed_1 : decode cX12_changed 1 = .ok (.iconst 0, 1) := by decide +kernel
theorem dX12_changed_2 : decode cX12_changed 2 = .ok (.putfield 180, 3) := by decide +kernel
theorem dX12_changed_5 : decode cX12_changed 5 = .ok (.aload_n 0, 1) := by decide +kernel
theorem dX12_changed_6 : decode cX12_changed 6 = .ok (.iload_n 1, 1) := by decide +kernel
theorem dX12_changed_7 : decode cX12_changed 7 = .ok (.iload_n 2, 1) := by decide +kernel
theorem dX12_changed_8 : decode cX12_changed 8 = .ok (.invokevirtual 507, 3) := by decide +kernel
theorem dX12_changed_11 : decode cX12_changed 11 = .ok (.ifCond .ne 5, 3) := by decide +kernel
theorem dX12_changed_14 : decode cX12_changed 14 = .ok (.iconst (-1), 1) := by decide +kernel
theorem dX12_changed_15 : decode cX12_changed 15 = .ok (.ireturn, 1) := by decide +kernel
theorem dX12_changed_16 : decode cX12_changed 16 = .ok (.bipush 16, 2) := by decide +kernel
theorem dX12_changed_18 : decode cX12_changed 18 = .ok (.iload_n 1, 1) := by decide +kernel
theorem dX12_changed_19 : decode cX12_changed 19 = .ok (.imul, 1) := by decide +kernel
theorem dX12_changed_20 : decode cX12_changed 20 = .ok (.iload_n 2, 1) := by decide +kernel
theorem dX12_changed_21 : decode cX12_changed 21 = .ok (.iadd, 1) := by decide +kernel
theorem dX12_changed_22 : decode cX12_changed 22 = .ok (.istore_n 3, 1) := by decide +kernel
theorem dX12_changed_23 : decode cX12_changed 23 = .ok (.aload_n 0, 1) := by decide +kernel
theorem dX12_changed_24 : decode cX12_changed 24 = .ok (.getfield 63, 3) := by decide +kernel
theorem dX12_changed_27 : decode cX12_changed 27 = .ok (.iload_n 3, 1) := by decide +kernel
theorem dX12_changed_28 : decode cX12_changed 28 = .ok (.iaload, 1) := by decide +kernel
theorem dX12_changed_29 : decode cX12_changed 29 = .ok (.istore 4, 2) := by decide +kernel
theorem dX12_changed_31 : decode cX12_changed 31 = .ok (.iconst 0, 1) := by decide +kernel
theorem dX12_changed_32 : decode cX12_changed 32 = .ok (.istore 5, 2) := by decide +kernel
theorem dX12_changed_34 : decode cX12_changed 34 = .ok (.iconst 0, 1) := by decide +kernel
theorem dX12_changed_35 : decode cX12_changed 35 = .ok (.istore 6, 2) := by decide +kernel
theorem dX12_changed_37 : decode cX12_changed 37 = .ok (.iload 6, 2) := by decide +kernel
theorem dX12_changed_39 : decode cX12_changed 39 = .ok (.aload_n 0, 1) := by decide +kernel
theorem dX12_changed_40 : decode cX12_changed 40 = .ok (.getfield 162, 3) := by decide +kernel
theorem dX12_changed_43 : decode cX12_changed 43 = .ok (.iload_n 3, 1) := by decide +kernel
theorem dX12_changed_44 : decode cX12_changed 44 = .ok (.iaload, 1) := by decide +kernel
theorem dX12_changed_45 : decode cX12_changed 45 = .ok (.if_icmp .ge 50, 3) := by decide +kernel
theorem dX12_changed_48 : decode cX12_changed 48 = .ok (.iload 5, 2) := by decide +kernel
theorem dX12_changed_50 : decode cX12_changed 50 = .ok (.aload_n 0, 1) := by decide +kernel
theorem dX12_changed_51 : decode cX12_changed 51 = .ok (.getfield 165, 3) := by decide +kernel
theorem dX12_changed_54 : decode cX12_changed 54 = .ok (.bipush 8, 2) := by decide +kernel
theorem dX12_changed_56 : decode cX12_changed 56 = .ok (.iload_n 3, 1) := by decide +kernel
theorem dX12_changed_57 : decode cX12_changed 57 = .ok (.imul, 1) := by decide +kernel
theorem dX12_changed_58 : decode cX12_changed 58 = .ok (.iload 6, 2) := by decide +kernel
theorem dX12_changed_60 : decode cX12_changed 60 = .ok (.iadd, 1) := by decide +kernel
theorem dX12_changed_61 : decode cX12_changed 61 = .ok (.iaload, 1) := by decide +kernel
theorem dX12_changed_62 : decode cX12_changed 62 = .ok (.iload 4, 2) := by decide +kernel
theorem dX12_changed_64 : decode cX12_changed 64 = .ok (.if_icmp .eq 7, 3) := by decide +kernel
theorem dX12_changed_67 : decode cX12_changed 67 = .ok (.iconst 1, 1) := by decide +kernel
theorem dX12_changed_68 : decode cX12_changed 68 = .ok (.goto 4, 3) := by decide +kernel
theorem dX12_changed_71 : decode cX12_changed 71 = .ok (.iconst 0, 1) := by decide +kernel
theorem dX12_changed_72 : decode cX12_changed 72 = .ok (.iadd, 1) := by decide +kernel
theorem dX12_changed_73 : decode cX12_changed 73 = .ok (.istore 5, 2) := by decide +kernel
theorem dX12_changed_75 : decode cX12_changed 75 = .ok (.aload_n 0, 1) := by decide +kernel
theorem dX12_changed_76 : decode cX12_changed 76 = .ok (.getfield 165, 3) := by decide +kernel
theorem dX12_changed_79 : decode cX12_changed 79 = .ok (.bipush 8, 2) := by decide +kernel
theorem dX12_changed_81 : decode cX12_changed 81 = .ok (.iload_n 3, 1) := by decide +kernel
theorem dX12_changed_82 : decode cX12_changed 82 = .ok (.imul, 1) := by decide +kernel
theorem dX12_changed_83 : decode cX12_changed 83 = .ok (.iload 6, 2) := by decide +kernel
theorem dX12_changed_85 : decode cX12_changed 85 = .ok (.iadd, 1) := by decide +kernel
theorem dX12_changed_86 : decode cX12_changed 86 = .ok (.iaload, 1) := by decide +kernel
theorem dX12_changed_87 : decode cX12_changed 87 = .ok (.istore 4, 2) := by decide +kernel
theorem dX12_changed_89 : decode cX12_changed 89 = .ok (.iinc 6 1, 3) := by decide +kernel
theorem dX12_changed_92 : decode cX12_changed 92 = .ok (.goto (-55), 3) := by decide +kernel
theorem dX12_changed_95 : decode cX12_changed 95 = .ok (.iload 5, 2) := by decide +kernel
theorem dX12_changed_97 : decode cX12_changed 97 = .ok (.ireturn, 1) := by decide +kernel
theorem dX12_latest_0 : decode cX12_latest 0 = .ok (.aload_n 0, 1) := by decide +kernel
theorem dX12_latest_1 : decode cX12_latest 1 = .ok (.getfield 162, 3) := by decide +kernel
theorem dX12_latest_4 : decode cX12_latest 4 = .ok (.iload_n 1, 1) := by decide +kernel
theorem dX12_latest_5 : decode cX12_latest 5 = .ok (.iaload, 1) := by decide +kernel
theorem dX12_latest_6 : decode cX12_latest 6 = .ok (.ifCond .ne 12, 3) := by decide +kernel
theorem dX12_latest_9 : decode cX12_latest 9 = .ok (.aload_n 0, 1) := by decide +kernel
theorem dX12_latest_10 : decode cX12_latest 10 = .ok (.getfield 63, 3) := by decide +kernel
theorem dX12_latest_13 : decode cX12_latest 13 = .ok (.iload_n 1, 1) := by decide +kernel
theorem dX12_latest_14 : decode cX12_latest 14 = .ok (.iaload, 1) := by decide +kernel
theorem dX12_latest_15 : decode cX12_latest 15 = .ok (.goto 21, 3) := by decide +kernel
theorem dX12_latest_18 : decode cX12_latest 18 = .ok (.aload_n 0, 1) := by decide +kernel
theorem dX12_latest_19 : decode cX12_latest 19 = .ok (.getfield 165, 3) := by decide +kernel
theorem dX12_latest_22 : decode cX12_latest 22 = .ok (.bipush 8, 2) := by decide +kernel
theorem dX12_latest_24 : decode cX12_latest 24 = .ok (.iload_n 1, 1) := by decide +kernel
theorem dX12_latest_25 : decode cX12_latest 25 = .ok (.imul, 1) := by decide +kernel
theorem dX12_latest_26 : decode cX12_latest 26 = .ok (.aload_n 0, 1) := by decide +kernel
theorem dX12_latest_27 : decode cX12_latest 27 = .ok (.getfield 162, 3) := by decide +kernel
theorem dX12_latest_30 : decode cX12_latest 30 = .ok (.iload_n 1, 1) := by decide +kernel
theorem dX12_latest_31 : decode cX12_latest 31 = .ok (.iaload, 1) := by decide +kernel
theorem dX12_latest_32 : decode cX12_latest 32 = .ok (.iadd, 1) := by decide +kernel
theorem dX12_latest_33 : decode cX12_latest 33 = .ok (.iconst 1, 1) := by decide +kernel
theorem dX12_latest_34 : decode cX12_latest 34 = .ok (.isub, 1) := by decide +kernel
theorem dX12_latest_35 : decode cX12_latest 35 = .ok (.iaload, 1) := by decide +kernel
theorem dX12_latest_36 : decode cX12_latest 36 = .ok (.ireturn, 1) := by decide +kernel
theorem dX12_differing_0 : decode cX12_differing 0 = .ok (.iconst 0, 1) := by decide +kernel
theorem dX12_differing_1 : decode cX12_differing 1 = .ok (.istore_n 2, 1) := by decide +kernel
theorem dX12_differing_2 : decode cX12_differing 2 = .ok (.iconst 0, 1) := by decide +kernel
theorem dX12_differing_3 : decode cX12_differing 3 = .ok (.istore_n 3, 1) := by decide +kernel
theorem dX12_differing_4 : decode cX12_differing 4 = .ok (.iload_n 3, 1) := by decide +kernel
theorem dX12_differing_5 : decode cX12_differing 5 = .ok (.aload_n 0, 1) := by decide +kernel
theorem dX12_differing_6 : decode cX12_differing 6 = .ok (.getfield 177, 3) := by decide +kernel
theorem dX12_differing_9 : decode cX12_differing 9 = .ok (.if_icmp .ge 43, 3) := by decide +kernel
theorem dX12_differing_12 : decode cX12_differing 12 = .ok (.iload_n 2, 1) := by decide +kernel
theorem dX12_differing_13 : decode cX12_differing 13 = .ok (.aload_n 0, 1) := by decide +kernel
theorem dX12_differing_14 : decode cX12_differing 14 = .ok (.bipush 16, 2) := by decide +kernel
theorem dX12_differing_16 : decode cX12_differing 16 = .ok (.iload_n 1, 1) := by decide +kernel
theorem dX12_differing_17 : decode cX12_differing 17 = .ok (.imul, 1) := by decide +kernel
theorem dX12_differing_18 : decode cX12_differing 18 = .ok (.iload_n 3, 1) := by decide +kernel
theorem dX12_differing_19 : decode cX12_differing 19 = .ok (.iadd, 1) := by decide +kernel
theorem dX12_differing_20 : decode cX12_differing 20 = .ok (.invokevirtual 510, 3) := by decide +kernel
theorem dX12_differing_23 : decode cX12_differing 23 = .ok (.aload_n 0, 1) := by decide +kernel
theorem dX12_differing_24 : decode cX12_differing 24 = .ok (.getfield 63, 3) := by decide +kernel
theorem dX12_differing_27 : decode cX12_differing 27 = .ok (.bipush 16, 2) := by decide +kernel
theorem dX12_differing_29 : decode cX12_differing 29 = .ok (.iload_n 1, 1) := by decide +kernel
theorem dX12_differing_30 : decode cX12_differing 30 = .ok (.imul, 1) := by decide +kernel
theorem dX12_differing_31 : decode cX12_differing 31 = .ok (.iload_n 3, 1) := by decide +kernel
theorem dX12_differing_32 : decode cX12_differing 32 = .ok (.iadd, 1) := by decide +kernel
theorem dX12_differing_33 : decode cX12_differing 33 = .ok (.iaload, 1) := by decide +kernel
theorem dX12_differing_34 : decode cX12_differing 34 = .ok (.if_icmp .eq 9, 3) := by decide +kernel
theorem dX12_differing_37 : decode cX12_differing 37 = .ok (.iconst 1, 1) := by decide +kernel
theorem dX12_differing_38 : decode cX12_differing 38 = .ok (.iload_n 3, 1) := by decide +kernel
theorem dX12_differing_39 : decode cX12_differing 39 = .ok (.ishl, 1) := by decide +kernel
theorem dX12_differing_40 : decode cX12_differing 40 = .ok (.goto 4, 3) := by decide +kernel
theorem dX12_differing_43 : decode cX12_differing 43 = .ok (.iconst 0, 1) := by decide +kernel
theorem dX12_differing_44 : decode cX12_differing 44 = .ok (.ior, 1) := by decide +kernel
theorem dX12_differing_45 : decode cX12_differing 45 = .ok (.istore_n 2, 1) := by decide +kernel
theorem dX12_differing_46 : decode cX12_differing 46 = .ok (.iinc 3 1, 3) := by decide +kernel
theorem dX12_differing_49 : decode cX12_differing 49 = .ok (.goto (-45), 3) := by decide +kernel
theorem dX12_differing_52 : decode cX12_differing 52 = .ok (.iload_n 2, 1) := by decide +kernel
theorem dX12_differing_53 : decode cX12_differing 53 = .ok (.ireturn, 1) := by decide +kernel
theorem dX12_differs_0 : decode cX12_differs 0 = .ok (.aload_n 0, 1) := by decide +kernel
theorem dX12_differs_1 : decode cX12_differs 1 = .ok (.iconst 0, 1) := by decide +kernel
theorem dX12_differs_2 : decode cX12_differs 2 = .ok (.putfield 180, 3) := by decide +kernel
theorem dX12_differs_5 : decode cX12_differs 5 = .ok (.aload_n 0, 1) := by decide +kernel
theorem dX12_differs_6 : decode cX12_differs 6 = .ok (.iload_n 1, 1) := by decide +kernel
theorem dX12_differs_7 : decode cX12_differs 7 = .ok (.invokevirtual 337, 3) := by decide +kernel
theorem dX12_differs_10 : decode cX12_differs 10 = .ok (.ifCond .eq 11, 3) := by decide +kernel
theorem dX12_differs_13 : decode cX12_differs 13 = .ok (.aload_n 0, 1) := by decide +kernel
theorem dX12_differs_14 : decode cX12_differs 14 = .ok (.iload_n 1, 1) := by decide +kernel
theorem dX12_differs_15 : decode cX12_differs 15 = .ok (.invokevirtual 513, 3) := by decide +kernel
theorem dX12_differs_18 : decode cX12_differs 18 = .ok (.goto 4, 3) := by decide +kernel
theorem dX12_differs_21 : decode cX12_differs 21 = .ok (.iconst (-1), 1) := by decide +kernel
theorem dX12_differs_22 : decode cX12_differs 22 = .ok (.ireturn, 1) := by decide +kernel
theorem dX12_take_0 : decode cX12_take 0 = .ok (.aload_n 0, 1) := by decide +kernel
theorem dX12_take_1 : decode cX12_take 1 = .ok (.iconst 0, 1) := by decide +kernel
theorem dX12_take_2 : decode cX12_take 2 = .ok (.putfield 180, 3) := by decide +kernel
theorem dX12_take_5 : decode cX12_take 5 = .ok (.aload_n 0, 1) := by decide +kernel
theorem dX12_take_6 : decode cX12_take 6 = .ok (.iload_n 1, 1) := by decide +kernel
theorem dX12_take_7 : decode cX12_take 7 = .ok (.invokevirtual 337, 3) := by decide +kernel
theorem dX12_take_10 : decode cX12_take 10 = .ok (.ifCond .ne 5, 3) := by decide +kernel
theorem dX12_take_13 : decode cX12_take 13 = .ok (.iconst (-1), 1) := by decide +kernel
theorem dX12_take_14 : decode cX12_take 14 = .ok (.ireturn, 1) := by decide +kernel
theorem dX12_take_15 : decode cX12_take 15 = .ok (.aload_n 0, 1) := by decide +kernel
theorem dX12_take_16 : decode cX12_take 16 = .ok (.iload_n 1, 1) := by decide +kernel
theorem dX12_take_17 : decode cX12_take 17 = .ok (.invokevirtual 513, 3) := by decide +kernel
theorem dX12_take_20 : decode cX12_take 20 = .ok (.istore_n 2, 1) := by decide +kernel
theorem dX12_take_21 : decode cX12_take 21 = .ok (.iconst 0, 1) := by decide +kernel
theorem dX12_take_22 : decode cX12_take 22 = .ok (.istore_n 3, 1) := by decide +kernel
theorem dX12_take_23 : decode cX12_take 23 = .ok (.iload_n 3, 1) := by decide +kernel
theorem dX12_take_24 : decode cX12_take 24 = .ok (.aload_n 0, 1) := by decide +kernel
theorem dX12_take_25 : decode cX12_take 25 = .ok (.getfield 177, 3) := by decide +kernel
theorem dX12_take_28 : decode cX12_take 28 = .ok (.if_icmp .ge 30, 3) := by decide +kernel
theorem dX12_take_31 : decode cX12_take 31 = .ok (.aload_n 0, 1) := by decide +kernel
theorem dX12_take_32 : decode cX12_take 32 = .ok (.getfield 63, 3) := by decide +kernel
theorem dX12_take_35 : decode cX12_take 35 = .ok (.bipush 16, 2) := by decide +kernel
theorem dX12_take_37 : decode cX12_take 37 = .ok (.iload_n 1, 1) := by decide +kernel
theorem dX12_take_38 : decode cX12_take 38 = .ok (.imul, 1) := by decide +kernel
theorem dX12_take_39 : decode cX12_take 39 = .ok (.iload_n 3, 1) := by decide +kernel
theorem dX12_take_40 : decode cX12_take 40 = .ok (.iadd, 1) := by decide +kernel
theorem dX12_take_41 : decode cX12_take 41 = .ok (.aload_n 0, 1) := by decide +kernel
theorem dX12_take_42 : decode cX12_take 42 = .ok (.bipush 16, 2) := by decide +kernel
theorem dX12_take_44 : decode cX12_take 44 = .ok (.iload_n 1, 1) := by decide +kernel
theorem dX12_take_45 : decode cX12_take 45 = .ok (.imul, 1) := by decide +kernel
theorem dX12_take_46 : decode cX12_take 46 = .ok (.iload_n 3, 1) := by decide +kernel
theorem dX12_take_47 : decode cX12_take 47 = .ok (.iadd, 1) := by decide +kernel
theorem dX12_take_48 : decode cX12_take 48 = .ok (.invokevirtual 510, 3) := by decide +kernel
theorem dX12_take_51 : decode cX12_take 51 = .ok (.iastore, 1) := by decide +kernel
theorem dX12_take_52 : decode cX12_take 52 = .ok (.iinc 3 1, 3) := by decide +kernel
theorem dX12_take_55 : decode cX12_take 55 = .ok (.goto (-32), 3) := by decide +kernel
theorem dX12_take_58 : decode cX12_take 58 = .ok (.iload_n 2, 1) := by decide +kernel
theorem dX12_take_59 : decode cX12_take 59 = .ok (.invokestatic 183, 3) := by decide +kernel
theorem dX12_take_62 : decode cX12_take 62 = .ok (.ireturn, 1) := by decide +kernel
theorem dX12_count_0 : decode cX12_count 0 = .ok (.aload_n 0, 1) := by decide +kernel
theorem dX12_count_1 : decode cX12_count 1 = .ok (.iconst 0, 1) := by decide +kernel
theorem dX12_count_2 : decode cX12_count 2 = .ok (.putfield 180, 3) := by decide +kernel
theorem dX12_count_5 : decode cX12_count 5 = .ok (.iload_n 1, 1) := by decide +kernel
theorem dX12_count_6 : decode cX12_count 6 = .ok (.tableswitch 95 0 8 #[50, 55, 60, 65, 70, 75, 80, 85, 90], 50) := by decide +kernel
theorem dX12_count_56 : decode cX12_count 56 = .ok (.aload_n 0, 1) := by decide +kernel
theorem dX12_count_57 : decode cX12_count 57 = .ok (.getfield 189, 3) := by decide +kernel
theorem dX12_count_60 : decode cX12_count 60 = .ok (.ireturn, 1) := by decide +kernel
theorem dX12_count_61 : decode cX12_count 61 = .ok (.aload_n 0, 1) := by decide +kernel
theorem dX12_count_62 : decode cX12_count 62 = .ok (.getfield 204, 3) := by decide +kernel
theorem dX12_count_65 : decode cX12_count 65 = .ok (.ireturn, 1) := by decide +kernel
theorem dX12_count_66 : decode cX12_count 66 = .ok (.aload_n 0, 1) := by decide +kernel
theorem dX12_count_67 : decode cX12_count 67 = .ok (.getfield 328, 3) := by decide +kernel
theorem dX12_count_70 : decode cX12_count 70 = .ok (.ireturn, 1) := by decide +kernel
theorem dX12_count_71 : decode cX12_count 71 = .ok (.aload_n 0, 1) := by decide +kernel
theorem dX12_count_72 : decode cX12_count 72 = .ok (.getfield 331, 3) := by decide +kernel
theorem dX12_count_75 : decode cX12_count 75 = .ok (.ireturn, 1) := by decide +kernel
theorem dX12_count_76 : decode cX12_count 76 = .ok (.aload_n 0, 1) := by decide +kernel
theorem dX12_count_77 : decode cX12_count 77 = .ok (.getfield 420, 3) := by decide +kernel
theorem dX12_count_80 : decode cX12_count 80 = .ok (.ireturn, 1) := by decide +kernel
theorem dX12_count_81 : decode cX12_count 81 = .ok (.aload_n 0, 1) := by decide +kernel
theorem dX12_count_82 : decode cX12_count 82 = .ok (.getfield 229, 3) := by decide +kernel
theorem dX12_count_85 : decode cX12_count 85 = .ok (.ireturn, 1) := by decide +kernel
theorem dX12_count_86 : decode cX12_count 86 = .ok (.aload_n 0, 1) := by decide +kernel
theorem dX12_count_87 : decode cX12_count 87 = .ok (.getfield 45, 3) := by decide +kernel
theorem dX12_count_90 : decode cX12_count 90 = .ok (.ireturn, 1) := by decide +kernel
theorem dX12_count_91 : decode cX12_count 91 = .ok (.aload_n 0, 1) := by decide +kernel
theorem dX12_count_92 : decode cX12_count 92 = .ok (.getfield 177, 3) := by decide +kernel
theorem dX12_count_95 : decode cX12_count 95 = .ok (.ireturn, 1) := by decide +kernel
theorem dX12_count_96 : decode cX12_count 96 = .ok (.aload_n 0, 1) := by decide +kernel
theorem dX12_count_97 : decode cX12_count 97 = .ok (.getfield 452, 3) := by decide +kernel
theorem dX12_count_100 : decode cX12_count 100 = .ok (.ireturn, 1) := by decide +kernel
theorem dX12_count_101 : decode cX12_count 101 = .ok (.ldc_w 391, 3) := by decide +kernel
theorem dX12_count_104 : decode cX12_count 104 = .ok (.ireturn, 1) := by decide +kernel
