theorem dX6_init_0 : decode cX6_init 0 = .ok (.aload_n 0, 1) := by decide +kernel
theorem dX6_init_1 : decode cX6_init 1 = .ok (.invokespecial 3, 3) := by decide +kernel
theorem dX6_init_4 : decode cX6_init 4 = .ok (.aload_n 0, 1) := by decide +kernel
theorem dX6_init_5 : decode cX6_init 5 = .ok (.iconst 1, 1) := by decide +kernel
theorem dX6_init_6 : decode cX6_init 6 = .ok (.putfield 9, 3) := by decide +kernel
theorem dX6_init_9 : decode cX6_init 9 = .ok (.aload_n 0, 1) := by decide +kernel
theorem dX6_init_10 : decode cX6_init 10 = .ok (.bipush 64, 2) := by decide +kernel
theorem dX6_init_12 : decode cX6_init 12 = .ok (.newarray .int, 2) := by decide +kernel
theorem dX6_init_14 : decode cX6_init 14 = .ok (.putfield 15, 3) := by decide +kernel
theorem dX6_init_17 : decode cX6_init 17 = .ok (.aload_n 0, 1) := by decide +kernel
theorem dX6_init_18 : decode cX6_init 18 = .ok (.bipush 8, 2) := by decide +kernel
theorem dX6_init_20 : decode cX6_init 20 = .ok (.newarray .int, 2) := by decide +kernel
theorem dX6_init_22 : decode cX6_init 22 = .ok (.putfield 19, 3) := by decide +kernel
theorem dX6_init_25 : decode cX6_init 25 = .ok (.aload_n 0, 1) := by decide +kernel
theorem dX6_init_26 : decode cX6_init 26 = .ok (.sipush 960, 3) := by decide +kernel
theorem dX6_init_29 : decode cX6_init 29 = .ok (.newarray .int, 2) := by decide +kernel
theorem dX6_init_31 : decode cX6_init 31 = .ok (.putfield 22, 3) := by decide +kernel
theorem dX6_init_34 : decode cX6_init 34 = .ok (.aload_n 0, 1) := by decide +kernel
theorem dX6_init_35 : decode cX6_init 35 = .ok (.bipush 120, 2) := by decide +kernel
theorem dX6_init_37 : decode cX6_init 37 = .ok (.newarray .int, 2) := by decide +kernel
theorem dX6_init_39 : decode cX6_init 39 = .ok (.putfield 25, 3) := by decide +kernel
theorem dX6_init_42 : decode cX6_init 42 = .ok (.aload_n 0, 1) := by decide +kernel
theorem dX6_init_43 : decode cX6_init 43 = .ok (.sipush 960, 3) := by decide +kernel
theorem dX6_init_46 : decode cX6_init 46 = .ok (.newarray .int, 2) := by decide +kernel
theorem dX6_init_48 : decode cX6_init 48 = .ok (.putfield 28, 3) := by decide +kernel
theorem dX6_init_51 : decode cX6_init 51 = .ok (.aload_n 0, 1) := by decide +kernel
theorem dX6_init_52 : decode cX6_init 52 = .ok (.bipush 9, 2) := by decide +kernel
theorem dX6_init_54 : decode cX6_init 54 = .ok (.newarray .int, 2) := by decide +kernel
theorem dX6_init_56 : decode cX6_init 56 = .ok (.putfield 31, 3) := by decide +kernel
theorem dX6_init_59 : decode cX6_init 59 = .ok (.return_, 1) := by decide +kernel
theorem dX6_isName_0 : decode cX6_isName 0 = .ok (.iload_n 1, 1) := by decide +kernel
theorem dX6_isName_1 : decode cX6_isName 1 = .ok (.iconst 0, 1) := by decide +kernel
theorem dX6_isName_2 : decode cX6_isName 2 = .ok (.aload_n 0, 1) := by decide +kernel
theorem dX6_isName_3 : decode cX6_isName 3 = .ok (.getfield 34, 3) := by decide +kernel
theorem dX6_isName_6 : decode cX6_isName 6 = .ok (.iconst 1, 1) := by decide +kernel
theorem dX6_isName_7 : decode cX6_isName 7 = .ok (.isub, 1) := by decide +kernel
theorem dX6_isName_8 : decode cX6_isName 8 = .ok (.invokestatic 37, 3) := by decide +kernel
theorem dX6_isName_11 : decode cX6_isName 11 = .ok (.ireturn, 1) := by decide +kernel
theorem dX6_reading_0 : decode cX6_reading 0 = .ok (.iload_n 1, 1) := by decide +kernel
theorem dX6_reading_1 : decode cX6_reading 1 = .ok (.iconst 4, 1) := by decide +kernel
theorem dX6_reading_2 : decode cX6_reading 2 = .ok (.imul, 1) := by decide +kernel
theorem dX6_reading_3 : decode cX6_reading 3 = .ok (.iload_n 0, 1) := by decide +kernel
theorem dX6_reading_4 : decode cX6_reading 4 = .ok (.iadd, 1) := by decide +kernel
theorem dX6_reading_5 : decode cX6_reading 5 = .ok (.ireturn, 1) := by decide +kernel
theorem dX6_isRead_0 : decode cX6_isRead 0 = .ok (.iload_n 1, 1) := by decide +kernel
theorem dX6_isRead_1 : decode cX6_isRead 1 = .ok (.iconst 0, 1) := by decide +kernel
theorem dX6_isRead_2 : decode cX6_isRead 2 = .ok (.iconst 3, 1) := by decide +kernel
theorem dX6_isRead_3 : decode cX6_isRead 3 = .ok (.invokestatic 37, 3) := by decide +kernel
theorem dX6_isRead_6 : decode cX6_isRead 6 = .ok (.ifCond .eq 17, 3) := by decide +kernel
theorem dX6_isRead_9 : decode cX6_isRead 9 = .ok (.iload_n 2, 1) := by decide +kernel
theorem dX6_isRead_10 : decode cX6_isRead 10 = .ok (.iconst 0, 1) := by decide +kernel
theorem dX6_isRead_11 : decode cX6_isRead 11 = .ok (.bipush 29, 2) := by decide +kernel
theorem dX6_isRead_13 : decode cX6_isRead 13 = .ok (.invokestatic 37, 3) := by decide +kernel
theorem dX6_isRead_16 : decode cX6_isRead 16 = .ok (.ifCond .eq 7, 3) := by decide +kernel
theorem dX6_isRead_19 : decode cX6_isRead 19 = .ok (.iconst 1, 1) := by decide +kernel
theorem dX6_isRead_20 : decode cX6_isRead 20 = .ok (.goto 4, 3) := by decide +kernel
theorem dX6_isRead_23 : decode cX6_isRead 23 = .ok (.iconst 0, 1) := by decide +kernel
theorem dX6_isRead_24 : decode cX6_isRead 24 = .ok (.istore_n 3, 1) := by decide +kernel
theorem dX6_isRead_25 : decode cX6_isRead 25 = .ok (.iload_n 3, 1) := by decide +kernel
theorem dX6_isRead_26 : decode cX6_isRead 26 = .ok (.ifCond .eq 22, 3) := by decide +kernel
theorem dX6_isRead_29 : decode cX6_isRead 29 = .ok (.aload_n 0, 1) := by decide +kernel
theorem dX6_isRead_30 : decode cX6_isRead 30 = .ok (.getfield 25, 3) := by decide +kernel
theorem dX6_isRead_33 : decode cX6_isRead 33 = .ok (.iload_n 1, 1) := by decide +kernel
theorem dX6_isRead_34 : decode cX6_isRead 34 = .ok (.iload_n 2, 1) := by decide +kernel
theorem dX6_isRead_35 : decode cX6_isRead 35 = .ok (.invokestatic 43, 3) := by decide +kernel
theorem dX6_isRead_38 : decode cX6_isRead 38 = .ok (.invokestatic 47, 3) := by decide +kernel
theorem dX6_isRead_41 : decode cX6_isRead 41 = .ok (.ifCond .le 7, 3) := by decide +kernel
theorem dX6_isRead_44 : decode cX6_isRead 44 = .ok (.iconst 1, 1) := by decide +kernel
theorem dX6_isRead_45 : decode cX6_isRead 45 = .ok (.goto 4, 3) := by decide +kernel
theorem dX6_isRead_48 : decode cX6_isRead 48 = .ok (.iconst 0, 1) := by decide +kernel
theorem dX6_isRead_49 : decode cX6_isRead 49 = .ok (.ireturn, 1) := by decide +kernel
theorem dX6_addName_0 : decode cX6_addName 0 = .ok (.aload_n 0, 1) := by decide +kernel
theorem dX6_addName_1 : decode cX6_addName 1 = .ok (.getfield 34, 3) := by decide +kernel
theorem dX6_addName_4 : decode cX6_addName 4 = .ok (.bipush 8, 2) := by decide +kernel
theorem dX6_addName_6 : decode cX6_addName 6 = .ok (.if_icmp .ge 11, 3) := by decide +kernel
theorem dX6_addName_9 : decode cX6_addName 9 = .ok (.aload_n 1, 1) := by decide +kernel
theorem dX6_addName_10 : decode cX6_addName 10 = .ok (.iconst 0, 1) := by decide +kernel
theorem dX6_addName_11 : decode cX6_addName 11 = .ok (.invokevirtual 51, 3) := by decide +kernel
theorem dX6_addName_14 : decode cX6_addName 14 = .ok (.ifCond .ne 5, 3) := by decide +kernel
theorem dX6_addName_17 : decode cX6_addName 17 = .ok (.iconst (-1), 1) := by decide +kernel
theorem dX6_addName_18 : decode cX6_addName 18 = .ok (.ireturn, 1) := by decide +kernel
theorem dX6_addName_19 : decode cX6_addName 19 = .ok (.iconst 0, 1) := by decide +kernel
theorem dX6_addName_20 : decode cX6_addName 20 = .ok (.istore_n 2, 1) := by decide +kernel
theorem dX6_addName_21 : decode cX6_addName 21 = .ok (.iload_n 2, 1) := by decide +kernel
theorem dX6_addName_22 : decode cX6_addName 22 = .ok (.aload_n 0, 1) := by decide +kernel
theorem dX6_addName_23 : decode cX6_addName 23 = .ok (.getfield 34, 3) := by decide +kernel
theorem dX6_addName_26 : decode cX6_addName 26 = .ok (.if_icmp .ge 49, 3) := by decide +kernel
theorem dX6_addName_29 : decode cX6_addName 29 = .ok (.aload_n 1, 1) := by decide +kernel
theorem dX6_addName_30 : decode cX6_addName 30 = .ok (.getfield 57, 3) := by decide +kernel
theorem dX6_addName_33 : decode cX6_addName 33 = .ok (.iconst 0, 1) := by decide +kernel
theorem dX6_addName_34 : decode cX6_addName 34 = .ok (.aload_n 0, 1) := by decide +kernel
theorem dX6_addName_35 : decode cX6_addName 35 = .ok (.getfield 15, 3) := by decide +kernel
theorem dX6_addName_38 : decode cX6_addName 38 = .ok (.iload_n 2, 1) := by decide +kernel
theorem dX6_addName_39 : decode cX6_addName 39 = .ok (.bipush 8, 2) := by decide +kernel
theorem dX6_addName_41 : decode cX6_addName 41 = .ok (.imul, 1) := by decide +kernel
theorem dX6_addName_42 : decode cX6_addName 42 = .ok (.aload_n 1, 1) := by decide +kernel
theorem dX6_addName_43 : decode cX6_addName 43 = .ok (.getfield 60, 3) := by decide +kernel
theorem dX6_addName_46 : decode cX6_addName 46 = .ok (.invokestatic 63, 3) := by decide +kernel
theorem dX6_addName_49 : decode cX6_addName 49 = .ok (.ifCond .eq 20, 3) := by decide +kernel
theorem dX6_addName_52 : decode cX6_addName 52 = .ok (.aload_n 0, 1) := by decide +kernel
theorem dX6_addName_53 : decode cX6_addName 53 = .ok (.getfield 19, 3) := by decide +kernel
theorem dX6_addName_56 : decode cX6_addName 56 = .ok (.iload_n 2, 1) := by decide +kernel
theorem dX6_addName_57 : decode cX6_addName 57 = .ok (.invokestatic 47, 3) := by decide +kernel
theorem dX6_addName_60 : decode cX6_addName 60 = .ok (.aload_n 1, 1) := by decide +kernel
theorem dX6_addName_61 : decode cX6_addName 61 = .ok (.getfield 60, 3) := by decide +kernel
theorem dX6_addName_64 : decode cX6_addName 64 = .ok (.if_icmp .ne 5, 3) := by decide +kernel
theorem dX6_addName_67 : decode cX6_addName 67 = .ok (.iconst (-1), 1) := by decide +kernel
theorem dX6_addName_68 : decode cX6_addName 68 = .ok (.ireturn, 1) := by decide +kernel
theorem dX6_addName_69 : decode cX6_addName 69 = .ok (.iinc 2 1, 3) := by decide +kernel
theorem dX6_addName_72 : decode cX6_addName 72 = .ok (.goto (-51), 3) := by decide +kernel
theorem dX6_addName_75 : decode cX6_addName 75 = .ok (.aload_n 1, 1) := by decide +kernel
theorem dX6_addName_76 : decode cX6_addName 76 = .ok (.aload_n 0, 1) := by decide +kernel
theorem dX6_addName_77 : decode cX6_addName 77 = .ok (.getfield 15, 3) := by decide +kernel
theorem dX6_addName_80 : decode cX6_addName 80 = .ok (.aload_n 0, 1) := by decide +kernel
theorem dX6_addName_81 : decode cX6_addName 81 = .ok (.getfield 34, 3) := by decide +kernel
theorem dX6_addName_84 : decode cX6_addName 84 = .ok (.bipush 8, 2) := by decide +kernel
theorem dX6_addName_86 : decode cX6_addName 86 = .ok (.imul, 1) := by decide +kernel
theorem dX6_addName_87 : decode cX6_addName 87 = .ok (.invokevirtual 67, 3) := by decide +kernel
theorem dX6_addName_90 : decode cX6_addName 90 = .ok (.aload_n 0, 1) := by decide +kernel
theorem dX6_addName_91 : decode cX6_addName 91 = .ok (.getfield 19, 3) := by decide +kernel
theorem dX6_addName_94 : decode cX6_addName 94 = .ok (.aload_n 0, 1) := by decide +kernel
theorem dX6_addName_95 : decode cX6_addName 95 = .ok (.getfield 34, 3) := by decide +kernel
theorem dX6_addName_98 : decode cX6_addName 98 = .ok (.aload_n 1, 1) := by decide +kernel
theorem dX6_addName_99 : decode cX6_addName 99 = .ok (.getfield 60, 3) := by decide +kernel
theorem dX6_addName_102 : decode cX6_addName 102 = .ok (.invokestatic 71, 3) := by decide +kernel
theorem dX6_addName_105 : decode cX6_addName 105 = .ok (.aload_n 1, 1) := by decide +kernel
theorem dX6_addName_106 : decode cX6_addName 106 = .ok (.iconst 0, 1) := by decide +kernel
theorem dX6_addName_107 : decode cX6_addName 107 = .ok (.putfield 60, 3) := by decide +kernel
theorem dX6_addName_110 : decode cX6_addName 110 = .ok (.iconst 0, 1) := by decide +kernel
theorem dX6_addName_111 : decode cX6_addName 111 = .ok (.istore_n 2, 1) := by decide +kernel
theorem dX6_addName_112 : decode cX6_addName 112 = .ok (.iload_n 2, 1) := by decide +kernel
theorem dX6_addName_113 : decode cX6_addName 113 = .ok (.bipush 120, 2) := by decide +kernel
theorem dX6_addName_115 : decode cX6_addName 115 = .ok (.if_icmp .ge 18, 3) := by decide +kernel
theorem dX6_addName_118 : decode cX6_addName 118 = .ok (.aload_n 0, 1) := by decide +kernel
theorem dX6_addName_119 : decode cX6_addName 119 = .ok (.iload_n 2, 1) := by decide +kernel
theorem dX6_addName_120 : decode cX6_addName 120 = .ok (.aload_n 0, 1) := by decide +kernel
theorem dX6_addName_121 : decode cX6_addName 121 = .ok (.getfield 34, 3) := by decide +kernel
theorem dX6_addName_124 : decode cX6_addName 124 = .ok (.invokevirtual 75, 3) := by decide +kernel
theorem dX6_addName_127 : decode cX6_addName 127 = .ok (.iinc 2 1, 3) := by decide +kernel
theorem dX6_addName_130 : decode cX6_addName 130 = .ok (.goto (-18), 3) := by decide +kernel
theorem dX6_addName_133 : decode cX6_addName 133 = .ok (.aload_n 0, 1) := by decide +kernel
theorem dX6_addName_134 : decode cX6_addName 134 = .ok (.dup, 1) := by decide +kernel
theorem dX6_addName_135 : decode cX6_addName 135 = .ok (.getfield 34, 3) := by decide +kernel
theorem dX6_addName_138 : decode cX6_addName 138 = .ok (.dup_x1, 1) := by decide +kernel
theorem dX6_addName_139 : decode cX6_addName 139 = .ok (.iconst 1, 1) := by decide +kernel
theorem dX6_addName_140 : decode cX6_addName 140 = .ok (.iadd, 1) := by decide +kernel
theorem dX6_addName_141 : decode cX6_addName 141 = .ok (.putfield 34, 3) := by decide +kernel
theorem dX6_addName_144 : decode cX6_addName 144 = .ok (.ireturn, 1) := by decide +kernel
theorem dX6_setReading_0 : decode cX6_setReading 0 = .ok (.iload_n 1, 1) := by decide +kernel
theorem dX6_setReading_1 : decode cX6_setReading 1 = .ok (.iconst 0, 1) := by decide +kernel
theorem dX6_setReading_2 : decode cX6_setReading 2 = .ok (.iconst 3, 1) := by decide +kernel
theorem dX6_setReading_3 : decode cX6_setReading 3 = .ok (.invokestatic 37, 3) := by decide +kernel
theorem dX6_setReading_6 : decode cX6_setReading 6 = .ok (.ifCond .eq 17, 3) := by decide +kernel
theorem dX6_setReading_9 : decode cX6_setReading 9 = .ok (.iload_n 2, 1) := by decide +kernel
theorem dX6_setReading_10 : decode cX6_setReading 10 = .ok (.iconst 0, 1) := by decide +kernel
theorem dX6_setReading_11 : decode cX6_setReading 11 = .ok (.bipush 29, 2) := by decide +kernel
theorem dX6_setReading_13 : decode cX6_setReading 13 = .ok (.invokestatic 37, 3) := by decide +kernel
theorem dX6_setReading_16 : decode cX6_setReading 16 = .ok (.ifCond .eq 7, 3) := by decide +kernel
theorem dX6_setReading_19 : decode cX6_setReading 19 = .ok (.iconst 1, 1) := by decide +kernel
theorem dX6_setReading_20 : decode cX6_setReading 20 = .ok (.goto 4, 3) := by decide +kernel
theorem dX6_setReading_23 : decode cX6_setReading 23 = .ok (.iconst 0, 1) := by decide +kernel
theorem dX6_setReading_24 : decode cX6_setReading 24 = .ok (.istore 4, 2) := by decide +kernel
theorem dX6_setReading_26 : decode cX6_setReading 26 = .ok (.iload 4, 2) := by decide +kernel
theorem dX6_setReading_28 : decode cX6_setReading 28 = .ok (.ifCond .eq 11, 3) := by decide +kernel
theorem dX6_setReading_31 : decode cX6_setReading 31 = .ok (.aload_n 3, 1) := by decide +kernel
theorem dX6_setReading_32 : decode cX6_setReading 32 = .ok (.iconst 1, 1) := by decide +kernel
theorem dX6_setReading_33 : decode cX6_setReading 33 = .ok (.invokevirtual 51, 3) := by decide +kernel
theorem dX6_setReading_36 : decode cX6_setReading 36 = .ok (.ifCond .ne 5, 3) := by decide +kernel
theorem dX6_setReading_39 : decode cX6_setReading 39 = .ok (.iconst 0, 1) := by decide +kernel
theorem dX6_setReading_40 : decode cX6_setReading 40 = .ok (.ireturn, 1) := by decide +kernel
theorem dX6_setReading_41 : decode cX6_setReading 41 = .ok (.iload_n 1, 1) := by decide +kernel
theorem dX6_setReading_42 : decode cX6_setReading 42 = .ok (.iload_n 2, 1) := by decide +kernel
theorem dX6_setReading_43 : decode cX6_setReading 43 = .ok (.invokestatic 43, 3) := by decide +kernel
theorem dX6_setReading_46 : decode cX6_setReading 46 = .ok (.istore 5, 2) := by decide +kernel
theorem dX6_setReading_48 : decode cX6_setReading 48 = .ok (.aload_n 3, 1) := by decide +kernel
theorem dX6_setReading_49 : decode cX6_setReading 49 = .ok (.aload_n 0, 1) := by decide +kernel
theorem dX6_setReading_50 : decode cX6_setReading 50 = .ok (.getfield 22, 3) := by decide +kernel
theorem dX6_setReading_53 : decode cX6_setReading 53 = .ok (.iload 5, 2) := by decide +kernel
theorem dX6_setReading_55 : decode cX6_setReading 55 = .ok (.bipush 8, 2) := by decide +kernel
theorem dX6_setReading_57 : decode cX6_setReading 57 = .ok (.imul, 1) := by decide +kernel
theorem dX6_setReading_58 : decode cX6_setReading 58 = .ok (.invokevirtual 67, 3) := by decide +kernel
theorem dX6_setReading_61 : decode cX6_setReading 61 = .ok (.aload_n 0, 1) := by decide +kernel
theorem dX6_setReading_62 : decode cX6_setReading 62 = .ok (.getfield 25, 3) := by decide +kernel
theorem dX6_setReading_65 : decode cX6_setReading 65 = .ok (.iload 5, 2) := by decide +kernel
theorem dX6_setReading_67 : decode cX6_setReading 67 = .ok (.aload_n 3, 1) := by decide +kernel
theorem dX6_setReading_68 : decode cX6_setReading 68 = .ok (.getfield 60, 3) := by decide +kernel
theorem dX6_setReading_71 : decode cX6_setReading 71 = .ok (.invokestatic 71, 3) := by decide +kernel
theorem dX6_setReading_74 : decode cX6_setReading 74 = .ok (.aload_n 3, 1) := by decide +kernel
theorem dX6_setReading_75 : decode cX6_setReading 75 = .ok (.iconst 0, 1) := by decide +kernel
theorem dX6_setReading_76 : decode cX6_setReading 76 = .ok (.putfield 60, 3) := by decide +kernel
theorem dX6_setReading_79 : decode cX6_setReading 79 = .ok (.iconst 0, 1) := by decide +kernel
theorem dX6_setReading_80 : decode cX6_setReading 80 = .ok (.istore 6, 2) := by decide +kernel
theorem dX6_setReading_82 : decode cX6_setReading 82 = .ok (.iload 6, 2) := by decide +kernel
theorem dX6_setReading_84 : decode cX6_setReading 84 = .ok (.aload_n 0, 1) := by decide +kernel
theorem dX6_setReading_85 : decode cX6_setReading 85 = .ok (.getfield 34, 3) := by decide +kernel
theorem dX6_setReading_88 : decode cX6_setReading 88 = .ok (.if_icmp .ge 17, 3) := by decide +kernel
theorem dX6_setReading_91 : decode cX6_setReading 91 = .ok (.aload_n 0, 1) := by decide +kernel
theorem dX6_setReading_92 : decode cX6_setReading 92 = .ok (.iload 5, 2) := by decide +kernel
theorem dX6_setReading_94 : decode cX6_setReading 94 = .ok (.iload 6, 2) := by decide +kernel
theorem dX6_setReading_96 : decode cX6_setReading 96 = .ok (.invokevirtual 75, 3) := by decide +kernel
theorem dX6_setReading_99 : decode cX6_setReading 99 = .ok (.iinc 6 1, 3) := by decide +kernel
theorem dX6_setReading_102 : decode cX6_setReading 102 = .ok (.goto (-20), 3) := by decide +kernel
theorem dX6_setReading_105 : decode cX6_setReading 105 = .ok (.iconst 1, 1) := by decide +kernel
theorem dX6_setReading_106 : decode cX6_setReading 106 = .ok (.ireturn, 1) := by decide +kernel
theorem dX6_isSame_0 : decode cX6_isSame 0 = .ok (.iconst 0, 1) := by decide +kernel
theorem dX6_isSame_1 : decode cX6_isSame 1 = .ok (.istore 5, 2) := by decide +kernel
theorem dX6_isSame_3 : decode cX6_isSame 3 = .ok (.iload 5, 2) := by decide +kernel
theorem dX6_isSame_5 : decode cX6_isSame 5 = .ok (.iload 4, 2) := by decide +kernel
theorem dX6_isSame_7 : decode cX6_isSame 7 = .ok (.if_icmp .ge 30, 3) := by decide +kernel
theorem dX6_isSame_10 : decode cX6_isSame 10 = .ok (.aload_n 0, 1) := by decide +kernel
theorem dX6_isSame_11 : decode cX6_isSame 11 = .ok (.iload_n 1, 1) := by decide +kernel
theorem dX6_isSame_12 : decode cX6_isSame 12 = .ok (.iload 5, 2) := by decide +kernel
theorem dX6_isSame_14 : decode cX6_isSame 14 = .ok (.iadd, 1) := by decide +kernel
theorem dX6_isSame_15 : decode cX6_isSame 15 = .ok (.invokestatic 47, 3) := by decide +kernel
theorem dX6_isSame_18 : decode cX6_isSame 18 = .ok (.aload_n 2, 1) := by decide +kernel
theorem dX6_isSame_19 : decode cX6_isSame 19 = .ok (.iload_n 3, 1) := by decide +kernel
theorem dX6_isSame_20 : decode cX6_isSame 20 = .ok (.iload 5, 2) := by decide +kernel
theorem dX6_isSame_22 : decode cX6_isSame 22 = .ok (.iadd, 1) := by decide +kernel
theorem dX6_isSame_23 : decode cX6_isSame 23 = .ok (.invokestatic 47, 3) := by decide +kernel
theorem dX6_isSame_26 : decode cX6_isSame 26 = .ok (.if_icmp .eq 5, 3) := by decide +kernel
theorem dX6_isSame_29 : decode cX6_isSame 29 = .ok (.iconst 0, 1) := by decide +kernel
theorem dX6_isSame_30 : decode cX6_isSame 30 = .ok (.ireturn, 1) := by decide +kernel
theorem dX6_isSame_31 : decode cX6_isSame 31 = .ok (.iinc 5 1, 3) := by decide +kernel
theorem dX6_isSame_34 : decode cX6_isSame 34 = .ok (.goto (-31), 3) := by decide +kernel
theorem dX6_isSame_37 : decode cX6_isSame 37 = .ok (.iconst 1, 1) := by decide +kernel
theorem dX6_isSame_38 : decode cX6_isSame 38 = .ok (.ireturn, 1) := by decide +kernel
theorem dX6_measure_0 : decode cX6_measure 0 = .ok (.aload_n 0, 1) := by decide +kernel
theorem dX6_measure_1 : decode cX6_measure 1 = .ok (.getfield 19, 3) := by decide +kernel
theorem dX6_measure_4 : decode cX6_measure 4 = .ok (.iload_n 2, 1) := by decide +kernel
theorem dX6_measure_5 : decode cX6_measure 5 = .ok (.invokestatic 47, 3) := by decide +kernel
theorem dX6_measure_8 : decode cX6_measure 8 = .ok (.istore_n 3, 1) := by decide +kernel
theorem dX6_measure_9 : decode cX6_measure 9 = .ok (.iconst 0, 1) := by decide +kernel
theorem dX6_measure_10 : decode cX6_measure 10 = .ok (.istore 4, 2) := by decide +kernel
theorem dX6_measure_12 : decode cX6_measure 12 = .ok (.iload 4, 2) := by decide +kernel
theorem dX6_measure_14 : decode cX6_measure 14 = .ok (.iload_n 3, 1) := by decide +kernel
theorem dX6_measure_15 : decode cX6_measure 15 = .ok (.if_icmp .gt 20, 3) := by decide +kernel
theorem dX6_measure_18 : decode cX6_measure 18 = .ok (.aload_n 0, 1) := by decide +kernel
theorem dX6_measure_19 : decode cX6_measure 19 = .ok (.getfield 31, 3) := by decide +kernel
theorem dX6_measure_22 : decode cX6_measure 22 = .ok (.iload 4, 2) := by decide +kernel
theorem dX6_measure_24 : decode cX6_measure 24 = .ok (.iload 4, 2) := by decide +kernel
theorem dX6_measure_26 : decode cX6_measure 26 = .ok (.invokestatic 71, 3) := by decide +kernel
theorem dX6_measure_29 : decode cX6_measure 29 = .ok (.iinc 4 1, 3) := by decide +kernel
theorem dX6_measure_32 : decode cX6_measure 32 = .ok (.goto (-20), 3) := by decide +kernel
theorem dX6_measure_35 : decode cX6_measure 35 = .ok (.iconst 1, 1) := by decide +kernel
theorem dX6_measure_36 : decode cX6_measure 36 = .ok (.istore 4, 2) := by decide +kernel
theorem dX6_measure_38 : decode cX6_measure 38 = .ok (.iload 4, 2) := by decide +kernel
theorem dX6_measure_40 : decode cX6_measure 40 = .ok (.aload_n 0, 1) := by decide +kernel
theorem dX6_measure_41 : decode cX6_measure 41 = .ok (.getfield 25, 3) := by decide +kernel
theorem dX6_measure_44 : decode cX6_measure 44 = .ok (.iload_n 1, 1) := by decide +kernel
theorem dX6_measure_45 : decode cX6_measure 45 = .ok (.invokestatic 47, 3) := by decide +kernel
theorem dX6_measure_48 : decode cX6_measure 48 = .ok (.if_icmp .gt 159, 3) := by decide +kernel
theorem dX6_measure_51 : decode cX6_measure 51 = .ok (.aload_n 0, 1) := by decide +kernel
theorem dX6_measure_52 : decode cX6_measure 52 = .ok (.getfield 22, 3) := by decide +kernel
theorem dX6_measure_55 : decode cX6_measure 55 = .ok (.iload_n 1, 1) := by decide +kernel
theorem dX6_measure_56 : decode cX6_measure 56 = .ok (.bipush 8, 2) := by decide +kernel
theorem dX6_measure_58 : decode cX6_measure 58 = .ok (.imul, 1) := by decide +kernel
theorem dX6_measure_59 : decode cX6_measure 59 = .ok (.iload 4, 2) := by decide +kernel
theorem dX6_measure_61 : decode cX6_measure 61 = .ok (.iadd, 1) := by decide +kernel
theorem dX6_measure_62 : decode cX6_measure 62 = .ok (.iconst 1, 1) := by decide +kernel
theorem dX6_measure_63 : decode cX6_measure 63 = .ok (.isub, 1) := by decide +kernel
theorem dX6_measure_64 : decode cX6_measure 64 = .ok (.invokestatic 47, 3) := by decide +kernel
theorem dX6_measure_67 : decode cX6_measure 67 = .ok (.istore 5, 2) := by decide +kernel
theorem dX6_measure_69 : decode cX6_measure 69 = .ok (.aload_n 0, 1) := by decide +kernel
theorem dX6_measure_70 : decode cX6_measure 70 = .ok (.getfield 31, 3) := by decide +kernel
theorem dX6_measure_73 : decode cX6_measure 73 = .ok (.iconst 0, 1) := by decide +kernel
theorem dX6_measure_74 : decode cX6_measure 74 = .ok (.invokestatic 47, 3) := by decide +kernel
theorem dX6_measure_77 : decode cX6_measure 77 = .ok (.istore 6, 2) := by decide +kernel
theorem dX6_measure_79 : decode cX6_measure 79 = .ok (.aload_n 0, 1) := by decide +kernel
theorem dX6_measure_80 : decode cX6_measure 80 = .ok (.getfield 31, 3) := by decide +kernel
theorem dX6_measure_83 : decode cX6_measure 83 = .ok (.iconst 0, 1) := by decide +kernel
theorem dX6_measure_84 : decode cX6_measure 84 = .ok (.iload 4, 2) := by decide +kernel
theorem dX6_measure_86 : decode cX6_measure 86 = .ok (.invokestatic 71, 3) := by decide +kernel
theorem dX6_measure_89 : decode cX6_measure 89 = .ok (.iconst 1, 1) := by decide +kernel
theorem dX6_measure_90 : decode cX6_measure 90 = .ok (.istore 7, 2) := by decide +kernel
theorem dX6_measure_92 : decode cX6_measure 92 = .ok (.iload 7, 2) := by decide +kernel
theorem dX6_measure_94 : decode cX6_measure 94 = .ok (.iload_n 3, 1) := by decide +kernel
theorem dX6_measure_95 : decode cX6_measure 95 = .ok (.if_icmp .gt 106, 3) := by decide +kernel
theorem dX6_measure_98 : decode cX6_measure 98 = .ok (.iload 5, 2) := by decide +kernel
theorem dX6_measure_100 : decode cX6_measure 100 = .ok (.bipush 46, 2) := by decide +kernel
theorem dX6_measure_102 : decode cX6_measure 102 = .ok (.if_icmp .eq 24, 3) := by decide +kernel
theorem dX6_measure_105 : decode cX6_measure 105 = .ok (.iload 5, 2) := by decide +kernel
theorem dX6_measure_107 : decode cX6_measure 107 = .ok (.aload_n 0, 1) := by decide +kernel
theorem dX6_measure_108 : decode cX6_measure 108 = .ok (.getfield 15, 3) := by decide +kernel
theorem dX6_measure_111 : decode cX6_measure 111 = .ok (.iload_n 2, 1) := by decide +kernel
theorem dX6_measure_112 : decode cX6_measure 112 = .ok (.bipush 8, 2) := by decide +kernel
theorem dX6_measure_114 : decode cX6_measure 114 = .ok (.imul, 1) := by decide +kernel
theorem dX6_measure_115 : decode cX6_measure 115 = .ok (.iload 7, 2) := by decide +kernel
theorem dX6_measure_117 : decode cX6_measure 117 = .ok (.iadd, 1) := by decide +kernel
theorem dX6_measure_118 : decode cX6_measure 118 = .ok (.iconst 1, 1) := by decide +kernel
theorem dX6_measure_119 : decode cX6_measure 119 = .ok (.isub, 1) := by decide +kernel
theorem dX6_measure_120 : decode cX6_measure 120 = .ok (.invokestatic 47, 3) := by decide +kernel
theorem dX6_measure_123 : decode cX6_measure 123 = .ok (.if_icmp .ne 7, 3) := by decide +kernel
theorem dX6_measure_126 : decode cX6_measure 126 = .ok (.iconst 1, 1) := by decide +kernel
theorem dX6_measure_127 : decode cX6_measure 127 = .ok (.goto 4, 3) := by decide +kernel
theorem dX6_measure_130 : decode cX6_measure 130 = .ok (.iconst 0, 1) := by decide +kernel
theorem dX6_measure_131 : decode cX6_measure 131 = .ok (.istore 8, 2) := by decide +kernel
theorem dX6_measure_133 : decode cX6_measure 133 = .ok (.iload 6, 2) := by decide +kernel
theorem dX6_measure_135 : decode cX6_measure 135 = .ok (.iload 8, 2) := by decide +kernel
theorem dX6_measure_137 : decode cX6_measure 137 = .ok (.ifCond .eq 7, 3) := by decide +kernel
theorem dX6_measure_140 : decode cX6_measure 140 = .ok (.iconst 0, 1) := by decide +kernel
theorem dX6_measure_141 : decode cX6_measure 141 = .ok (.goto 4, 3) := by decide +kernel
theorem dX6_measure_144 : decode cX6_measure 144 = .ok (.iconst 1, 1) := by decide +kernel
theorem dX6_measure_145 : decode cX6_measure 145 = .ok (.iadd, 1) := by decide +kernel
theorem dX6_measure_146 : decode cX6_measure 146 = .ok (.istore 9, 2) := by decide +kernel
theorem dX6_measure_148 : decode cX6_measure 148 = .ok (.aload_n 0, 1) := by decide +kernel
theorem dX6_measure_149 : decode cX6_measure 149 = .ok (.getfield 31, 3) := by decide +kernel
theorem dX6_measure_152 : decode cX6_measure 152 = .ok (.iload 7, 2) := by decide +kernel
theorem dX6_measure_154 : decode cX6_measure 154 = .ok (.invokestatic 47, 3) := by decide +kernel
theorem dX6_measure_157 : decode cX6_measure 157 = .ok (.istore 6, 2) := by decide +kernel
theorem dX6_measure_159 : decode cX6_measure 159 = .ok (.iload 6, 2) := by decide +kernel
theorem dX6_measure_161 : decode cX6_measure 161 = .ok (.aload_n 0, 1) := by decide +kernel
theorem dX6_measure_162 : decode cX6_measure 162 = .ok (.getfield 31, 3) := by decide +kernel
theorem dX6_measure_165 : decode cX6_measure 165 = .ok (.iload 7, 2) := by decide +kernel
theorem dX6_measure_167 : decode cX6_measure 167 = .ok (.iconst 1, 1) := by decide +kernel
theorem dX6_measure_168 : decode cX6_measure 168 = .ok (.isub, 1) := by decide +kernel
theorem dX6_measure_169 : decode cX6_measure 169 = .ok (.invokestatic 47, 3) := by decide +kernel
theorem dX6_measure_172 : decode cX6_measure 172 = .ok (.invokestatic 79, 3) := by decide +kernel
theorem dX6_measure_175 : decode cX6_measure 175 = .ok (.iconst 1, 1) := by decide +kernel
theorem dX6_measure_176 : decode cX6_measure 176 = .ok (.iadd, 1) := by decide +kernel
theorem dX6_measure_177 : decode cX6_measure 177 = .ok (.istore 10, 2) := by decide +kernel
theorem dX6_measure_179 : decode cX6_measure 179 = .ok (.aload_n 0, 1) := by decide +kernel
theorem dX6_measure_180 : decode cX6_measure 180 = .ok (.getfield 31, 3) := by decide +kernel
theorem dX6_measure_183 : decode cX6_measure 183 = .ok (.iload 7, 2) := by decide +kernel
theorem dX6_measure_185 : decode cX6_measure 185 = .ok (.iload 9, 2) := by decide +kernel
theorem dX6_measure_187 : decode cX6_measure 187 = .ok (.iload 10, 2) := by decide +kernel
theorem dX6_measure_189 : decode cX6_measure 189 = .ok (.invokestatic 79, 3) := by decide +kernel
theorem dX6_measure_192 : decode cX6_measure 192 = .ok (.invokestatic 71, 3) := by decide +kernel
theorem dX6_measure_195 : decode cX6_measure 195 = .ok (.iinc 7 1, 3) := by decide +kernel
theorem dX6_measure_198 : decode cX6_measure 198 = .ok (.goto (-106), 3) := by decide +kernel
theorem dX6_measure_201 : decode cX6_measure 201 = .ok (.iinc 4 1, 3) := by decide +kernel
theorem dX6_measure_204 : decode cX6_measure 204 = .ok (.goto (-166), 3) := by decide +kernel
theorem dX6_measure_207 : decode cX6_measure 207 = .ok (.aload_n 0, 1) := by decide +kernel
theorem dX6_measure_208 : decode cX6_measure 208 = .ok (.getfield 28, 3) := by decide +kernel
theorem dX6_measure_211 : decode cX6_measure 211 = .ok (.iload_n 1, 1) := by decide +kernel
theorem dX6_measure_212 : decode cX6_measure 212 = .ok (.bipush 8, 2) := by decide +kernel
theorem dX6_measure_214 : decode cX6_measure 214 = .ok (.imul, 1) := by decide +kernel
theorem dX6_measure_215 : decode cX6_measure 215 = .ok (.iload_n 2, 1) := by decide +kernel
theorem dX6_measure_216 : decode cX6_measure 216 = .ok (.iadd, 1) := by decide +kernel
theorem dX6_measure_217 : decode cX6_measure 217 = .ok (.aload_n 0, 1) := by decide +kernel
theorem dX6_measure_218 : decode cX6_measure 218 = .ok (.getfield 31, 3) := by decide +kernel
theorem dX6_measure_221 : decode cX6_measure 221 = .ok (.iload_n 3, 1) := by decide +kernel
theorem dX6_measure_222 : decode cX6_measure 222 = .ok (.invokestatic 47, 3) := by decide +kernel
theorem dX6_measure_225 : decode cX6_measure 225 = .ok (.invokestatic 71, 3) := by decide +kernel
theorem dX6_measure_228 : decode cX6_measure 228 = .ok (.return_, 1) := by decide +kernel
theorem dX6_farFrom_0 : decode cX6_farFrom 0 = .ok (.aload_n 0, 1) := by decide +kernel
theorem dX6_farFrom_1 : decode cX6_farFrom 1 = .ok (.getfield 28, 3) := by decide +kernel
theorem dX6_farFrom_4 : decode cX6_farFrom 4 = .ok (.iload_n 1, 1) := by decide +kernel
theorem dX6_farFrom_5 : decode cX6_farFrom 5 = .ok (.iload_n 2, 1) := by decide +kernel
theorem dX6_farFrom_6 : decode cX6_farFrom 6 = .ok (.invokestatic 43, 3) := by decide +kernel
theorem dX6_farFrom_9 : decode cX6_farFrom 9 = .ok (.bipush 8, 2) := by decide +kernel
theorem dX6_farFrom_11 : decode cX6_farFrom 11 = .ok (.imul, 1) := by decide +kernel
theorem dX6_farFrom_12 : decode cX6_farFrom 12 = .ok (.iload_n 3, 1) := by decide +kernel
theorem dX6_farFrom_13 : decode cX6_farFrom 13 = .ok (.iadd, 1) := by decide +kernel
theorem dX6_farFrom_14 : decode cX6_farFrom 14 = .ok (.invokestatic 47, 3) := by decide +kernel
theorem dX6_farFrom_17 : decode cX6_farFrom 17 = .ok (.ireturn, 1) := by decide +kernel
theorem dX6_nearest_0 : decode cX6_nearest 0 = .ok (.aload_n 0, 1) := by decide +kernel
theorem dX6_nearest_1 : decode cX6_nearest 1 = .ok (.getfield 9, 3) := by decide +kernel
theorem dX6_nearest_4 : decode cX6_nearest 4 = .ok (.istore_n 3, 1) := by decide +kernel
theorem dX6_nearest_5 : decode cX6_nearest 5 = .ok (.iconst 0, 1) := by decide +kernel
theorem dX6_nearest_6 : decode cX6_nearest 6 = .ok (.istore 4, 2) := by decide +kernel
theorem dX6_nearest_8 : decode cX6_nearest 8 = .ok (.iconst 0, 1) := by decide +kernel
theorem dX6_nearest_9 : decode cX6_nearest 9 = .ok (.istore 5, 2) := by decide +kernel
theorem dX6_nearest_11 : decode cX6_nearest 11 = .ok (.iload 5, 2) := by decide +kernel
theorem dX6_nearest_13 : decode cX6_nearest 13 = .ok (.aload_n 0, 1) := by decide +kernel
theorem dX6_nearest_14 : decode cX6_nearest 14 = .ok (.getfield 34, 3) := by decide +kernel
theorem dX6_nearest_17 : decode cX6_nearest 17 = .ok (.if_icmp .ge 47, 3) := by decide +kernel
theorem dX6_nearest_20 : decode cX6_nearest 20 = .ok (.aload_n 0, 1) := by decide +kernel
theorem dX6_nearest_21 : decode cX6_nearest 21 = .ok (.iload_n 1, 1) := by decide +kernel
theorem dX6_nearest_22 : decode cX6_nearest 22 = .ok (.iload_n 2, 1) := by decide +kernel
theorem dX6_nearest_23 : decode cX6_nearest 23 = .ok (.iload 5, 2) := by decide +kernel
theorem dX6_nearest_25 : decode cX6_nearest 25 = .ok (.invokevirtual 84, 3) := by decide +kernel
theorem dX6_nearest_28 : decode cX6_nearest 28 = .ok (.istore 6, 2) := by decide +kernel
theorem dX6_nearest_30 : decode cX6_nearest 30 = .ok (.iload 6, 2) := by decide +kernel
theorem dX6_nearest_32 : decode cX6_nearest 32 = .ok (.iload_n 3, 1) := by decide +kernel
theorem dX6_nearest_33 : decode cX6_nearest 33 = .ok (.if_icmp .ge 9, 3) := by decide +kernel
theorem dX6_nearest_36 : decode cX6_nearest 36 = .ok (.iload 6, 2) := by decide +kernel
theorem dX6_nearest_38 : decode cX6_nearest 38 = .ok (.istore_n 3, 1) := by decide +kernel
theorem dX6_nearest_39 : decode cX6_nearest 39 = .ok (.iconst 0, 1) := by decide +kernel
theorem dX6_nearest_40 : decode cX6_nearest 40 = .ok (.istore 4, 2) := by decide +kernel
theorem dX6_nearest_42 : decode cX6_nearest 42 = .ok (.iload 6, 2) := by decide +kernel
theorem dX6_nearest_44 : decode cX6_nearest 44 = .ok (.iload_n 3, 1) := by decide +kernel
theorem dX6_nearest_45 : decode cX6_nearest 45 = .ok (.if_icmp .ne 13, 3) := by decide +kernel
theorem dX6_nearest_48 : decode cX6_nearest 48 = .ok (.iload 4, 2) := by decide +kernel
theorem dX6_nearest_50 : decode cX6_nearest 50 = .ok (.iload 5, 2) := by decide +kernel
theorem dX6_nearest_52 : decode cX6_nearest 52 = .ok (.invokestatic 88, 3) := by decide +kernel
theorem dX6_nearest_55 : decode cX6_nearest 55 = .ok (.ior, 1) := by decide +kernel
theorem dX6_nearest_56 : decode cX6_nearest 56 = .ok (.istore 4, 2) := by decide +kernel
theorem dX6_nearest_58 : decode cX6_nearest 58 = .ok (.iinc 5 1, 3) := by decide +kernel
theorem dX6_nearest_61 : decode cX6_nearest 61 = .ok (.goto (-50), 3) := by decide +kernel
theorem dX6_nearest_64 : decode cX6_nearest 64 = .ok (.iload 4, 2) := by decide +kernel
theorem dX6_nearest_66 : decode cX6_nearest 66 = .ok (.ireturn, 1) := by decide +kernel
theorem dX6_isReadAtAll_0 : decode cX6_isReadAtAll 0 = .ok (.iconst 0, 1) := by decide +kernel
theorem dX6_isReadAtAll_1 : decode cX6_isReadAtAll 1 = .ok (.istore_n 2, 1) := by decide +kernel
theorem dX6_isReadAtAll_2 : decode cX6_isReadAtAll 2 = .ok (.iload_n 2, 1) := by decide +kernel
theorem dX6_isReadAtAll_3 : decode cX6_isReadAtAll 3 = .ok (.iconst 4, 1) := by decide +kernel
theorem dX6_isReadAtAll_4 : decode cX6_isReadAtAll 4 = .ok (.if_icmp .ge 20, 3) := by decide +kernel
theorem dX6_isReadAtAll_7 : decode cX6_isReadAtAll 7 = .ok (.aload_n 0, 1) := by decide +kernel
theorem dX6_isReadAtAll_8 : decode cX6_isReadAtAll 8 = .ok (.iload_n 2, 1) := by decide +kernel
theorem dX6_isReadAtAll_9 : decode cX6_isReadAtAll 9 = .ok (.iload_n 1, 1) := by decide +kernel
theorem dX6_isReadAtAll_10 : decode cX6_isReadAtAll 10 = .ok (.invokevirtual 92, 3) := by decide +kernel
theorem dX6_isReadAtAll_13 : decode cX6_isReadAtAll 13 = .ok (.ifCond .eq 5, 3) := by decide +kernel
theorem dX6_isReadAtAll_16 : decode cX6_isReadAtAll 16 = .ok (.iconst 1, 1) := by decide +kernel
theorem dX6_isReadAtAll_17 : decode cX6_isReadAtAll 17 = .ok (.ireturn, 1) := by decide +kernel
theorem dX6_isReadAtAll_18 : decode cX6_isReadAtAll 18 = .ok (.iinc 2 1, 3) := by decide +kernel
theorem dX6_isReadAtAll_21 : decode cX6_isReadAtAll 21 = .ok (.goto (-19), 3) := by decide +kernel
theorem dX6_isReadAtAll_24 : decode cX6_isReadAtAll 24 = .ok (.iconst 0, 1) := by decide +kernel
theorem dX6_isReadAtAll_25 : decode cX6_isReadAtAll 25 = .ok (.ireturn, 1) := by decide +kernel
theorem dX6_agreedName_0 : decode cX6_agreedName 0 = .ok (.iconst 0, 1) := by decide +kernel
theorem dX6_agreedName_1 : decode cX6_agreedName 1 = .ok (.istore_n 2, 1) := by decide +kernel
theorem dX6_agreedName_2 : decode cX6_agreedName 2 = .ok (.aload_n 0, 1) := by decide +kernel
theorem dX6_agreedName_3 : decode cX6_agreedName 3 = .ok (.getfield 34, 3) := by decide +kernel
theorem dX6_agreedName_6 : decode cX6_agreedName 6 = .ok (.invokestatic 96, 3) := by decide +kernel
theorem dX6_agreedName_9 : decode cX6_agreedName 9 = .ok (.istore_n 3, 1) := by decide +kernel
theorem dX6_agreedName_10 : decode cX6_agreedName 10 = .ok (.iconst 0, 1) := by decide +kernel
theorem dX6_agreedName_11 : decode cX6_agreedName 11 = .ok (.istore 4, 2) := by decide +kernel
theorem dX6_agreedName_13 : decode cX6_agreedName 13 = .ok (.iload 4, 2) := by decide +kernel
theorem dX6_agreedName_15 : decode cX6_agreedName 15 = .ok (.iconst 4, 1) := by decide +kernel
theorem dX6_agreedName_16 : decode cX6_agreedName 16 = .ok (.if_icmp .ge 48, 3) := by decide +kernel
theorem dX6_agreedName_19 : decode cX6_agreedName 19 = .ok (.aload_n 0, 1) := by decide +kernel
theorem dX6_agreedName_20 : decode cX6_agreedName 20 = .ok (.iload 4, 2) := by decide +kernel
theorem dX6_agreedName_22 : decode cX6_agreedName 22 = .ok (.iload_n 1, 1) := by decide +kernel
theorem dX6_agreedName_23 : decode cX6_agreedName 23 = .ok (.invokevirtual 92, 3) := by decide +kernel
theorem dX6_agreedName_26 : decode cX6_agreedName 26 = .ok (.ifCond .eq 32, 3) := by decide +kernel
theorem dX6_agreedName_29 : decode cX6_agreedName 29 = .ok (.aload_n 0, 1) := by decide +kernel
theorem dX6_agreedName_30 : decode cX6_agreedName 30 = .ok (.iload 4, 2) := by decide +kernel
theorem dX6_agreedName_32 : decode cX6_agreedName 32 = .ok (.iload_n 1, 1) := by decide +kernel
theorem dX6_agreedName_33 : decode cX6_agreedName 33 = .ok (.invokevirtual 99, 3) := by decide +kernel
theorem dX6_agreedName_36 : decode cX6_agreedName 36 = .ok (.istore 5, 2) := by decide +kernel
theorem dX6_agreedName_38 : decode cX6_agreedName 38 = .ok (.iload_n 3, 1) := by decide +kernel
theorem dX6_agreedName_39 : decode cX6_agreedName 39 = .ok (.iload 5, 2) := by decide +kernel
theorem dX6_agreedName_41 : decode cX6_agreedName 41 = .ok (.invokestatic 102, 3) := by decide +kernel
theorem dX6_agreedName_44 : decode cX6_agreedName 44 = .ok (.iconst 1, 1) := by decide +kernel
theorem dX6_agreedName_45 : decode cX6_agreedName 45 = .ok (.if_icmp .ne 8, 3) := by decide +kernel
theorem dX6_agreedName_48 : decode cX6_agreedName 48 = .ok (.iload 5, 2) := by decide +kernel
theorem dX6_agreedName_50 : decode cX6_agreedName 50 = .ok (.goto 4, 3) := by decide +kernel
theorem dX6_agreedName_53 : decode cX6_agreedName 53 = .ok (.iconst 0, 1) := by decide +kernel
theorem dX6_agreedName_54 : decode cX6_agreedName 54 = .ok (.iand, 1) := by decide +kernel
theorem dX6_agreedName_55 : decode cX6_agreedName 55 = .ok (.istore_n 3, 1) := by decide +kernel
theorem dX6_agreedName_56 : decode cX6_agreedName 56 = .ok (.iconst 1, 1) := by decide +kernel
theorem dX6_agreedName_57 : decode cX6_agreedName 57 = .ok (.istore_n 2, 1) := by decide +kernel
theorem dX6_agreedName_58 : decode cX6_agreedName 58 = .ok (.iinc 4 1, 3) := by decide +kernel
theorem dX6_agreedName_61 : decode cX6_agreedName 61 = .ok (.goto (-48), 3) := by decide +kernel
theorem dX6_agreedName_64 : decode cX6_agreedName 64 = .ok (.iload_n 2, 1) := by decide +kernel
theorem dX6_agreedName_65 : decode cX6_agreedName 65 = .ok (.ifCond .eq 14, 3) := by decide +kernel
theorem dX6_agreedName_68 : decode cX6_agreedName 68 = .ok (.iload_n 3, 1) := by decide +kernel
theorem dX6_agreedName_69 : decode cX6_agreedName 69 = .ok (.ifCond .eq 10, 3) := by decide +kernel
theorem dX6_agreedName_72 : decode cX6_agreedName 72 = .ok (.iload_n 3, 1) := by decide +kernel
theorem dX6_agreedName_73 : decode cX6_agreedName 73 = .ok (.invokestatic 107, 3) := by decide +kernel
theorem dX6_agreedName_76 : decode cX6_agreedName 76 = .ok (.goto 4, 3) := by decide +kernel
theorem dX6_agreedName_79 : decode cX6_agreedName 79 = .ok (.iconst (-1), 1) := by decide +kernel
theorem dX6_agreedName_80 : decode cX6_agreedName 80 = .ok (.ireturn, 1) := by decide +kernel
theorem dX6_isUnlike_0 : decode cX6_isUnlike 0 = .ok (.iconst (-1), 1) := by decide +kernel
theorem dX6_isUnlike_1 : decode cX6_isUnlike 1 = .ok (.istore_n 2, 1) := by decide +kernel
theorem dX6_isUnlike_2 : decode cX6_isUnlike 2 = .ok (.iconst 0, 1) := by decide +kernel
theorem dX6_isUnlike_3 : decode cX6_isUnlike 3 = .ok (.istore_n 3, 1) := by decide +kernel
theorem dX6_isUnlike_4 : decode cX6_isUnlike 4 = .ok (.iload_n 3, 1) := by decide +kernel
theorem dX6_isUnlike_5 : decode cX6_isUnlike 5 = .ok (.iconst 4, 1) := by decide +kernel
theorem dX6_isUnlike_6 : decode cX6_isUnlike 6 = .ok (.if_icmp .ge 95, 3) := by decide +kernel
theorem dX6_isUnlike_9 : decode cX6_isUnlike 9 = .ok (.iload_n 3, 1) := by decide +kernel
theorem dX6_isUnlike_10 : decode cX6_isUnlike 10 = .ok (.iload_n 1, 1) := by decide +kernel
theorem dX6_isUnlike_11 : decode cX6_isUnlike 11 = .ok (.invokestatic 43, 3) := by decide +kernel
theorem dX6_isUnlike_14 : decode cX6_isUnlike 14 = .ok (.istore 4, 2) := by decide +kernel
theorem dX6_isUnlike_16 : decode cX6_isUnlike 16 = .ok (.aload_n 0, 1) := by decide +kernel
theorem dX6_isUnlike_17 : decode cX6_isUnlike 17 = .ok (.getfield 25, 3) := by decide +kernel
theorem dX6_isUnlike_20 : decode cX6_isUnlike 20 = .ok (.iload 4, 2) := by decide +kernel
theorem dX6_isUnlike_22 : decode cX6_isUnlike 22 = .ok (.invokestatic 47, 3) := by decide +kernel
theorem dX6_isUnlike_25 : decode cX6_isUnlike 25 = .ok (.istore 5, 2) := by decide +kernel
theorem dX6_isUnlike_27 : decode cX6_isUnlike 27 = .ok (.iload 5, 2) := by decide +kernel
theorem dX6_isUnlike_29 : decode cX6_isUnlike 29 = .ok (.ifCond .ne 6, 3) := by decide +kernel
theorem dX6_isUnlike_32 : decode cX6_isUnlike 32 = .ok (.goto 63, 3) := by decide +kernel
theorem dX6_isUnlike_35 : decode cX6_isUnlike 35 = .ok (.iload_n 2, 1) := by decide +kernel
theorem dX6_isUnlike_36 : decode cX6_isUnlike 36 = .ok (.iconst (-1), 1) := by decide +kernel
theorem dX6_isUnlike_37 : decode cX6_isUnlike 37 = .ok (.if_icmp .ne 6, 3) := by decide +kernel
theorem dX6_isUnlike_40 : decode cX6_isUnlike 40 = .ok (.iload 4, 2) := by decide +kernel
theorem dX6_isUnlike_42 : decode cX6_isUnlike 42 = .ok (.istore_n 2, 1) := by decide +kernel
theorem dX6_isUnlike_43 : decode cX6_isUnlike 43 = .ok (.iload 5, 2) := by decide +kernel
theorem dX6_isUnlike_45 : decode cX6_isUnlike 45 = .ok (.aload_n 0, 1) := by decide +kernel
theorem dX6_isUnlike_46 : decode cX6_isUnlike 46 = .ok (.getfield 25, 3) := by decide +kernel
theorem dX6_isUnlike_49 : decode cX6_isUnlike 49 = .ok (.iload_n 2, 1) := by decide +kernel
theorem dX6_isUnlike_50 : decode cX6_isUnlike 50 = .ok (.invokestatic 47, 3) := by decide +kernel
theorem dX6_isUnlike_53 : decode cX6_isUnlike 53 = .ok (.if_icmp .ne 32, 3) := by decide +kernel
theorem dX6_isUnlike_56 : decode cX6_isUnlike 56 = .ok (.aload_n 0, 1) := by decide +kernel
theorem dX6_isUnlike_57 : decode cX6_isUnlike 57 = .ok (.getfield 22, 3) := by decide +kernel
theorem dX6_isUnlike_60 : decode cX6_isUnlike 60 = .ok (.iload 4, 2) := by decide +kernel
theorem dX6_isUnlike_62 : decode cX6_isUnlike 62 = .ok (.bipush 8, 2) := by decide +kernel
theorem dX6_isUnlike_64 : decode cX6_isUnlike 64 = .ok (.imul, 1) := by decide +kernel
theorem dX6_isUnlike_65 : decode cX6_isUnlike 65 = .ok (.aload_n 0, 1) := by decide +kernel
theorem dX6_isUnlike_66 : decode cX6_isUnlike 66 = .ok (.getfield 22, 3) := by decide +kernel
theorem dX6_isUnlike_69 : decode cX6_isUnlike 69 = .ok (.iload_n 2, 1) := by decide +kernel
theorem dX6_isUnlike_70 : decode cX6_isUnlike 70 = .ok (.bipush 8, 2) := by decide +kernel
theorem dX6_isUnlike_72 : decode cX6_isUnlike 72 = .ok (.imul, 1) := by decide +kernel
theorem dX6_isUnlike_73 : decode cX6_isUnlike 73 = .ok (.iload 5, 2) := by decide +kernel
theorem dX6_isUnlike_75 : decode cX6_isUnlike 75 = .ok (.invokestatic 63, 3) := by decide +kernel
theorem dX6_isUnlike_78 : decode cX6_isUnlike 78 = .ok (.ifCond .eq 7, 3) := by decide +kernel
theorem dX6_isUnlike_81 : decode cX6_isUnlike 81 = .ok (.iconst 1, 1) := by decide +kernel
theorem dX6_isUnlike_82 : decode cX6_isUnlike 82 = .ok (.goto 4, 3) := by decide +kernel
theorem dX6_isUnlike_85 : decode cX6_isUnlike 85 = .ok (.iconst 0, 1) := by decide +kernel
theorem dX6_isUnlike_86 : decode cX6_isUnlike 86 = .ok (.istore 6, 2) := by decide +kernel
theorem dX6_isUnlike_88 : decode cX6_isUnlike 88 = .ok (.iload 6, 2) := by decide +kernel
theorem dX6_isUnlike_90 : decode cX6_isUnlike 90 = .ok (.ifCond .ne 5, 3) := by decide +kernel
theorem dX6_isUnlike_93 : decode cX6_isUnlike 93 = .ok (.iconst 1, 1) := by decide +kernel
theorem dX6_isUnlike_94 : decode cX6_isUnlike 94 = .ok (.ireturn, 1) := by decide +kernel
theorem dX6_isUnlike_95 : decode cX6_isUnlike 95 = .ok (.iinc 3 1, 3) := by decide +kernel
theorem dX6_isUnlike_98 : decode cX6_isUnlike 98 = .ok (.goto (-94), 3) := by decide +kernel
theorem dX6_isUnlike_101 : decode cX6_isUnlike 101 = .ok (.iconst 0, 1) := by decide +kernel
theorem dX6_isUnlike_102 : decode cX6_isUnlike 102 = .ok (.ireturn, 1) := by decide +kernel
theorem dX6_counts_0 : decode cX6_counts 0 = .ok (.iload_n 2, 1) := by decide +kernel
theorem dX6_counts_1 : decode cX6_counts 1 = .ok (.tableswitch 71 0 2 #[27, 33, 48], 27) := by decide +kernel
theorem dX6_counts_28 : decode cX6_counts 28 = .ok (.aload_n 0, 1) := by decide +kernel
theorem dX6_counts_29 : decode cX6_counts 29 = .ok (.iload_n 1, 1) := by decide +kernel
theorem dX6_counts_30 : decode cX6_counts 30 = .ok (.invokevirtual 110, 3) := by decide +kernel
theorem dX6_counts_33 : decode cX6_counts 33 = .ok (.ireturn, 1) := by decide +kernel
theorem dX6_counts_34 : decode cX6_counts 34 = .ok (.aload_n 0, 1) := by decide +kernel
theorem dX6_counts_35 : decode cX6_counts 35 = .ok (.iload_n 1, 1) := by decide +kernel
theorem dX6_counts_36 : decode cX6_counts 36 = .ok (.invokevirtual 114, 3) := by decide +kernel
theorem dX6_counts_39 : decode cX6_counts 39 = .ok (.iconst (-1), 1) := by decide +kernel
theorem dX6_counts_40 : decode cX6_counts 40 = .ok (.if_icmp .eq 7, 3) := by decide +kernel
theorem dX6_counts_43 : decode cX6_counts 43 = .ok (.iconst 1, 1) := by decide +kernel
theorem dX6_counts_44 : decode cX6_counts 44 = .ok (.goto 4, 3) := by decide +kernel
theorem dX6_counts_47 : decode cX6_counts 47 = .ok (.iconst 0, 1) := by decide +kernel
theorem dX6_counts_48 : decode cX6_counts 48 = .ok (.ireturn, 1) := by decide +kernel
theorem dX6_counts_49 : decode cX6_counts 49 = .ok (.aload_n 0, 1) := by decide +kernel
theorem dX6_counts_50 : decode cX6_counts 50 = .ok (.iload_n 1, 1) := by decide +kernel
theorem dX6_counts_51 : decode cX6_counts 51 = .ok (.invokevirtual 110, 3) := by decide +kernel
theorem dX6_counts_54 : decode cX6_counts 54 = .ok (.ifCond .eq 16, 3) := by decide +kernel
theorem dX6_counts_57 : decode cX6_counts 57 = .ok (.aload_n 0, 1) := by decide +kernel
theorem dX6_counts_58 : decode cX6_counts 58 = .ok (.iload_n 1, 1) := by decide +kernel
theorem dX6_counts_59 : decode cX6_counts 59 = .ok (.invokevirtual 114, 3) := by decide +kernel
theorem dX6_counts_62 : decode cX6_counts 62 = .ok (.iconst (-1), 1) := by decide +kernel
theorem dX6_counts_63 : decode cX6_counts 63 = .ok (.if_icmp .ne 7, 3) := by decide +kernel
theorem dX6_counts_66 : decode cX6_counts 66 = .ok (.iconst 1, 1) := by decide +kernel
theorem dX6_counts_67 : decode cX6_counts 67 = .ok (.goto 4, 3) := by decide +kernel
theorem dX6_counts_70 : decode cX6_counts 70 = .ok (.iconst 0, 1) := by decide +kernel
theorem dX6_counts_71 : decode cX6_counts 71 = .ok (.ireturn, 1) := by decide +kernel
theorem dX6_counts_72 : decode cX6_counts 72 = .ok (.aload_n 0, 1) := by decide +kernel
theorem dX6_counts_73 : decode cX6_counts 73 = .ok (.iload_n 1, 1) := by decide +kernel
theorem dX6_counts_74 : decode cX6_counts 74 = .ok (.invokevirtual 117, 3) := by decide +kernel
theorem dX6_counts_77 : decode cX6_counts 77 = .ok (.ireturn, 1) := by decide +kernel
theorem dX6_howMany_0 : decode cX6_howMany 0 = .ok (.iconst 0, 1) := by decide +kernel
theorem dX6_howMany_1 : decode cX6_howMany 1 = .ok (.istore_n 2, 1) := by decide +kernel
theorem dX6_howMany_2 : decode cX6_howMany 2 = .ok (.iconst 0, 1) := by decide +kernel
theorem dX6_howMany_3 : decode cX6_howMany 3 = .ok (.istore_n 3, 1) := by decide +kernel
theorem dX6_howMany_4 : decode cX6_howMany 4 = .ok (.iload_n 3, 1) := by decide +kernel
theorem dX6_howMany_5 : decode cX6_howMany 5 = .ok (.bipush 30, 2) := by decide +kernel
theorem dX6_howMany_7 : decode cX6_howMany 7 = .ok (.if_icmp .ge 21, 3) := by decide +kernel
theorem dX6_howMany_10 : decode cX6_howMany 10 = .ok (.aload_n 0, 1) := by decide +kernel
theorem dX6_howMany_11 : decode cX6_howMany 11 = .ok (.iload_n 3, 1) := by decide +kernel
theorem dX6_howMany_12 : decode cX6_howMany 12 = .ok (.iload_n 1, 1) := by decide +kernel
theorem dX6_howMany_13 : decode cX6_howMany 13 = .ok (.invokevirtual 120, 3) := by decide +kernel
theorem dX6_howMany_16 : decode cX6_howMany 16 = .ok (.ifCond .eq 6, 3) := by decide +kernel
theorem dX6_howMany_19 : decode cX6_howMany 19 = .ok (.iinc 2 1, 3) := by decide +kernel
theorem dX6_howMany_22 : decode cX6_howMany 22 = .ok (.iinc 3 1, 3) := by decide +kernel
theorem dX6_howMany_25 : decode cX6_howMany 25 = .ok (.goto (-21), 3) := by decide +kernel
theorem dX6_howMany_28 : decode cX6_howMany 28 = .ok (.iload_n 2, 1) := by decide +kernel
theorem dX6_howMany_29 : decode cX6_howMany 29 = .ok (.ireturn, 1) := by decide +kernel
theorem dX6_sureFor_0 : decode cX6_sureFor 0 = .ok (.iconst 0, 1) := by decide +kernel
theorem dX6_sureFor_1 : decode cX6_sureFor 1 = .ok (.istore_n 2, 1) := by decide +kernel
theorem dX6_sureFor_2 : decode cX6_sureFor 2 = .ok (.iconst 0, 1) := by decide +kernel
theorem dX6_sureFor_3 : decode cX6_sureFor 3 = .ok (.istore_n 3, 1) := by decide +kernel
theorem dX6_sureFor_4 : decode cX6_sureFor 4 = .ok (.iload_n 3, 1) := by decide +kernel
theorem dX6_sureFor_5 : decode cX6_sureFor 5 = .ok (.bipush 30, 2) := by decide +kernel
theorem dX6_sureFor_7 : decode cX6_sureFor 7 = .ok (.if_icmp .ge 21, 3) := by decide +kernel
theorem dX6_sureFor_10 : decode cX6_sureFor 10 = .ok (.aload_n 0, 1) := by decide +kernel
theorem dX6_sureFor_11 : decode cX6_sureFor 11 = .ok (.iload_n 3, 1) := by decide +kernel
theorem dX6_sureFor_12 : decode cX6_sureFor 12 = .ok (.invokevirtual 114, 3) := by decide +kernel
theorem dX6_sureFor_15 : decode cX6_sureFor 15 = .ok (.iload_n 1, 1) := by decide +kernel
theorem dX6_sureFor_16 : decode cX6_sureFor 16 = .ok (.if_icmp .ne 6, 3) := by decide +kernel
theorem dX6_sureFor_19 : decode cX6_sureFor 19 = .ok (.iinc 2 1, 3) := by decide +kernel
theorem dX6_sureFor_22 : decode cX6_sureFor 22 = .ok (.iinc 3 1, 3) := by decide +kernel
theorem dX6_sureFor_25 : decode cX6_sureFor 25 = .ok (.goto (-21), 3) := by decide +kernel
theorem dX6_sureFor_28 : decode cX6_sureFor 28 = .ok (.iload_n 2, 1) := by decide +kernel
theorem dX6_sureFor_29 : decode cX6_sureFor 29 = .ok (.ireturn, 1) := by decide +kernel
theorem dX6_mostFor_0 : decode cX6_mostFor 0 = .ok (.iconst 0, 1) := by decide +kernel
theorem dX6_mostFor_1 : decode cX6_mostFor 1 = .ok (.istore_n 2, 1) := by decide +kernel
theorem dX6_mostFor_2 : decode cX6_mostFor 2 = .ok (.iconst 0, 1) := by decide +kernel
theorem dX6_mostFor_3 : decode cX6_mostFor 3 = .ok (.istore_n 3, 1) := by decide +kernel
theorem dX6_mostFor_4 : decode cX6_mostFor 4 = .ok (.iload_n 3, 1) := by decide +kernel
theorem dX6_mostFor_5 : decode cX6_mostFor 5 = .ok (.bipush 30, 2) := by decide +kernel
theorem dX6_mostFor_7 : decode cX6_mostFor 7 = .ok (.if_icmp .ge 21, 3) := by decide +kernel
theorem dX6_mostFor_10 : decode cX6_mostFor 10 = .ok (.aload_n 0, 1) := by decide +kernel
theorem dX6_mostFor_11 : decode cX6_mostFor 11 = .ok (.iload_n 3, 1) := by decide +kernel
theorem dX6_mostFor_12 : decode cX6_mostFor 12 = .ok (.iload_n 1, 1) := by decide +kernel
theorem dX6_mostFor_13 : decode cX6_mostFor 13 = .ok (.invokevirtual 123, 3) := by decide +kernel
theorem dX6_mostFor_16 : decode cX6_mostFor 16 = .ok (.ifCond .eq 6, 3) := by decide +kernel
theorem dX6_mostFor_19 : decode cX6_mostFor 19 = .ok (.iinc 2 1, 3) := by decide +kernel
theorem dX6_mostFor_22 : decode cX6_mostFor 22 = .ok (.iinc 3 1, 3) := by decide +kernel
theorem dX6_mostFor_25 : decode cX6_mostFor 25 = .ok (.goto (-21), 3) := by decide +kernel
theorem dX6_mostFor_28 : decode cX6_mostFor 28 = .ok (.iload_n 2, 1) := by decide +kernel
theorem dX6_mostFor_29 : decode cX6_mostFor 29 = .ok (.ireturn, 1) := by decide +kernel
theorem dX6_mayBeFor_0 : decode cX6_mayBeFor 0 = .ok (.iconst 0, 1) := by decide +kernel
theorem dX6_mayBeFor_1 : decode cX6_mayBeFor 1 = .ok (.istore_n 3, 1) := by decide +kernel
theorem dX6_mayBeFor_2 : decode cX6_mayBeFor 2 = .ok (.iload_n 3, 1) := by decide +kernel
theorem dX6_mayBeFor_3 : decode cX6_mayBeFor 3 = .ok (.iconst 4, 1) := by decide +kernel
theorem dX6_mayBeFor_4 : decode cX6_mayBeFor 4 = .ok (.if_icmp .ge 33, 3) := by decide +kernel
theorem dX6_mayBeFor_7 : decode cX6_mayBeFor 7 = .ok (.aload_n 0, 1) := by decide +kernel
theorem dX6_mayBeFor_8 : decode cX6_mayBeFor 8 = .ok (.iload_n 3, 1) := by decide +kernel
theorem dX6_mayBeFor_9 : decode cX6_mayBeFor 9 = .ok (.iload_n 1, 1) := by decide +kernel
theorem dX6_mayBeFor_10 : decode cX6_mayBeFor 10 = .ok (.invokevirtual 92, 3) := by decide +kernel
theorem dX6_mayBeFor_13 : decode cX6_mayBeFor 13 = .ok (.ifCond .eq 18, 3) := by decide +kernel
theorem dX6_mayBeFor_16 : decode cX6_mayBeFor 16 = .ok (.aload_n 0, 1) := by decide +kernel
theorem dX6_mayBeFor_17 : decode cX6_mayBeFor 17 = .ok (.iload_n 3, 1) := by decide +kernel
theorem dX6_mayBeFor_18 : decode cX6_mayBeFor 18 = .ok (.iload_n 1, 1) := by decide +kernel
theorem dX6_mayBeFor_19 : decode cX6_mayBeFor 19 = .ok (.invokevirtual 99, 3) := by decide +kernel
theorem dX6_mayBeFor_22 : decode cX6_mayBeFor 22 = .ok (.iload_n 2, 1) := by decide +kernel
theorem dX6_mayBeFor_23 : decode cX6_mayBeFor 23 = .ok (.invokestatic 126, 3) := by decide +kernel
theorem dX6_mayBeFor_26 : decode cX6_mayBeFor 26 = .ok (.ifCond .eq 5, 3) := by decide +kernel
theorem dX6_mayBeFor_29 : decode cX6_mayBeFor 29 = .ok (.iconst 1, 1) := by decide +kernel
theorem dX6_mayBeFor_30 : decode cX6_mayBeFor 30 = .ok (.ireturn, 1) := by decide +kernel
theorem dX6_mayBeFor_31 : decode cX6_mayBeFor 31 = .ok (.iinc 3 1, 3) := by decide +kernel
theorem dX6_mayBeFor_34 : decode cX6_mayBeFor 34 = .ok (.goto (-32), 3) := by decide +kernel
theorem dX6_mayBeFor_37 : decode cX6_mayBeFor 37 = .ok (.iconst 0, 1) := by decide +kernel
theorem dX6_mayBeFor_38 : decode cX6_mayBeFor 38 = .ok (.ireturn, 1) := by decide +kernel
theorem dX6_sureWinner_0 : decode cX6_sureWinner 0 = .ok (.iconst 0, 1) := by decide +kernel
theorem dX6_sureWinner_1 : decode cX6_sureWinner 1 = .ok (.istore_n 1, 1) := by decide +kernel
theorem dX6_sureWinner_2 : decode cX6_sureWinner 2 = .ok (.iload_n 1, 1) := by decide +kernel
theorem dX6_sureWinner_3 : decode cX6_sureWinner 3 = .ok (.aload_n 0, 1) := by decide +kernel
theorem dX6_sureWinner_4 : decode cX6_sureWinner 4 = .ok (.getfield 34, 3) := by decide +kernel
theorem dX6_sureWinner_7 : decode cX6_sureWinner 7 = .ok (.if_icmp .ge 19, 3) := by decide +kernel
theorem dX6_sureWinner_10 : decode cX6_sureWinner 10 = .ok (.aload_n 0, 1) := by decide +kernel
theorem dX6_sureWinner_11 : decode cX6_sureWinner 11 = .ok (.iload_n 1, 1) := by decide +kernel
theorem dX6_sureWinner_12 : decode cX6_sureWinner 12 = .ok (.invokevirtual 129, 3) := by decide +kernel
theorem dX6_sureWinner_15 : decode cX6_sureWinner 15 = .ok (.ifCond .eq 5, 3) := by decide +kernel
theorem dX6_sureWinner_18 : decode cX6_sureWinner 18 = .ok (.iload_n 1, 1) := by decide +kernel
theorem dX6_sureWinner_19 : decode cX6_sureWinner 19 = .ok (.ireturn, 1) := by decide +kernel
theorem dX6_sureWinner_20 : decode cX6_sureWinner 20 = .ok (.iinc 1 1, 3) := by decide +kernel
theorem dX6_sureWinner_23 : decode cX6_sureWinner 23 = .ok (.goto (-21), 3) := by decide +kernel
theorem dX6_sureWinner_26 : decode cX6_sureWinner 26 = .ok (.iconst (-1), 1) := by decide +kernel
theorem dX6_sureWinner_27 : decode cX6_sureWinner 27 = .ok (.ireturn, 1) := by decide +kernel
theorem dX6_isAboveOthers_0 : decode cX6_isAboveOthers 0 = .ok (.aload_n 0, 1) := by decide +kernel
theorem dX6_isAboveOthers_1 : decode cX6_isAboveOthers 1 = .ok (.iload_n 1, 1) := by decide +kernel
theorem dX6_isAboveOthers_2 : decode cX6_isAboveOthers 2 = .ok (.invokevirtual 132, 3) := by decide +kernel
theorem dX6_isAboveOthers_5 : decode cX6_isAboveOthers 5 = .ok (.istore_n 2, 1) := by decide +kernel
theorem dX6_isAboveOthers_6 : decode cX6_isAboveOthers 6 = .ok (.iconst 0, 1) := by decide +kernel
theorem dX6_isAboveOthers_7 : decode cX6_isAboveOthers 7 = .ok (.istore_n 3, 1) := by decide +kernel
theorem dX6_isAboveOthers_8 : decode cX6_isAboveOthers 8 = .ok (.iload_n 3, 1) := by decide +kernel
theorem dX6_isAboveOthers_9 : decode cX6_isAboveOthers 9 = .ok (.aload_n 0, 1) := by decide +kernel
theorem dX6_isAboveOthers_10 : decode cX6_isAboveOthers 10 = .ok (.getfield 34, 3) := by decide +kernel
theorem dX6_isAboveOthers_13 : decode cX6_isAboveOthers 13 = .ok (.if_icmp .ge 25, 3) := by decide +kernel
theorem dX6_isAboveOthers_16 : decode cX6_isAboveOthers 16 = .ok (.iload_n 3, 1) := by decide +kernel
theorem dX6_isAboveOthers_17 : decode cX6_isAboveOthers 17 = .ok (.iload_n 1, 1) := by decide +kernel
theorem dX6_isAboveOthers_18 : decode cX6_isAboveOthers 18 = .ok (.if_icmp .eq 14, 3) := by decide +kernel
theorem dX6_isAboveOthers_21 : decode cX6_isAboveOthers 21 = .ok (.aload_n 0, 1) := by decide +kernel
theorem dX6_isAboveOthers_22 : decode cX6_isAboveOthers 22 = .ok (.iload_n 3, 1) := by decide +kernel
theorem dX6_isAboveOthers_23 : decode cX6_isAboveOthers 23 = .ok (.invokevirtual 135, 3) := by decide +kernel
theorem dX6_isAboveOthers_26 : decode cX6_isAboveOthers 26 = .ok (.iload_n 2, 1) := by decide +kernel
theorem dX6_isAboveOthers_27 : decode cX6_isAboveOthers 27 = .ok (.if_icmp .lt 5, 3) := by decide +kernel
theorem dX6_isAboveOthers_30 : decode cX6_isAboveOthers 30 = .ok (.iconst 0, 1) := by decide +kernel
theorem dX6_isAboveOthers_31 : decode cX6_isAboveOthers 31 = .ok (.ireturn, 1) := by decide +kernel
theorem dX6_isAboveOthers_32 : decode cX6_isAboveOthers 32 = .ok (.iinc 3 1, 3) := by decide +kernel
theorem dX6_isAboveOthers_35 : decode cX6_isAboveOthers 35 = .ok (.goto (-27), 3) := by decide +kernel
theorem dX6_isAboveOthers_38 : decode cX6_isAboveOthers 38 = .ok (.iconst 1, 1) := by decide +kernel
theorem dX6_isAboveOthers_39 : decode cX6_isAboveOthers 39 = .ok (.ireturn, 1) := by decide +kernel
theorem dX7_init_0 : decode cX7_init 0 = .ok (.aload_n 0, 1) := by decide +kernel
theorem dX7_init_1 : decode cX7_init 1 = .ok (.invokespecial 3, 3) := by decide +kernel
theorem dX7_init_4 : decode cX7_init 4 = .ok (.aload_n 0, 1) := by decide +kernel
theorem dX7_init_5 : decode cX7_init 5 = .ok (.bipush 6, 2) := by decide +kernel
theorem dX7_init_7 : decode cX7_init 7 = .ok (.newarray .int, 2) := by decide +kernel
theorem dX7_init_9 : decode cX7_init 9 = .ok (.putfield 11, 3) := by decide +kernel
theorem dX7_init_12 : decode cX7_init 12 = .ok (.aload_n 0, 1) := by decide +kernel
theorem dX7_init_13 : decode cX7_init 13 = .ok (.bipush 120, 2) := by decide +kernel
theorem dX7_init_15 : decode cX7_init 15 = .ok (.newarray .int, 2) := by decide +kernel
theorem dX7_init_17 : decode cX7_init 17 = .ok (.putfield 17, 3) := by decide +kernel
theorem dX7_init_20 : decode cX7_init 20 = .ok (.aload_n 0, 1) := by decide +kernel
theorem dX7_init_21 : decode cX7_init 21 = .ok (.bipush 120, 2) := by decide +kernel
theorem dX7_init_23 : decode cX7_init 23 = .ok (.newarray .int, 2) := by decide +kernel
theorem dX7_init_25 : decode cX7_init 25 = .ok (.putfield 20, 3) := by decide +kernel
theorem dX7_init_28 : decode cX7_init 28 = .ok (.aload_n 0, 1) := by decide +kernel
theorem dX7_init_29 : decode cX7_init 29 = .ok (.bipush 120, 2) := by decide +kernel
theorem dX7_init_31 : decode cX7_init 31 = .ok (.newarray .int, 2) := by decide +kernel
theorem dX7_init_33 : decode cX7_init 33 = .ok (.putfield 23, 3) := by decide +kernel
theorem dX7_init_36 : decode cX7_init 36 = .ok (.return_, 1) := by decide +kernel
theorem dX7_isTime_0 : decode cX7_isTime 0 = .ok (.iload_n 0, 1) := by decide +kernel
theorem dX7_isTime_1 : decode cX7_isTime 1 = .ok (.iconst 0, 1) := by decide +kernel
theorem dX7_isTime_2 : decode cX7_isTime 2 = .ok (.sipush 9999, 3) := by decide +kernel
theorem dX7_isTime_5 : decode cX7_isTime 5 = .ok (.invokestatic 26, 3) := by decide +kernel
theorem dX7_isTime_8 : decode cX7_isTime 8 = .ok (.ireturn, 1) := by decide +kernel
theorem dX7_isSpan_0 : decode cX7_isSpan 0 = .ok (.iload_n 0, 1) := by decide +kernel
theorem dX7_isSpan_1 : decode cX7_isSpan 1 = .ok (.invokestatic 32, 3) := by decide +kernel
theorem dX7_isSpan_4 : decode cX7_isSpan 4 = .ok (.ifCond .eq 19, 3) := by decide +kernel
theorem dX7_isSpan_7 : decode cX7_isSpan 7 = .ok (.iload_n 1, 1) := by decide +kernel
theorem dX7_isSpan_8 : decode cX7_isSpan 8 = .ok (.invokestatic 32, 3) := by decide +kernel
theorem dX7_isSpan_11 : decode cX7_isSpan 11 = .ok (.ifCond .eq 12, 3) := by decide +kernel
theorem dX7_isSpan_14 : decode cX7_isSpan 14 = .ok (.iload_n 0, 1) := by decide +kernel
theorem dX7_isSpan_15 : decode cX7_isSpan 15 = .ok (.iload_n 1, 1) := by decide +kernel
theorem dX7_isSpan_16 : decode cX7_isSpan 16 = .ok (.if_icmp .ge 7, 3) := by decide +kernel
theorem dX7_isSpan_19 : decode cX7_isSpan 19 = .ok (.iconst 1, 1) := by decide +kernel
theorem dX7_isSpan_20 : decode cX7_isSpan 20 = .ok (.goto 4, 3) := by decide +kernel
theorem dX7_isSpan_23 : decode cX7_isSpan 23 = .ok (.iconst 0, 1) := by decide +kernel
theorem dX7_isSpan_24 : decode cX7_isSpan 24 = .ok (.ireturn, 1) := by decide +kernel
theorem dX7_isPlace_0 : decode cX7_isPlace 0 = .ok (.iload_n 0, 1) := by decide +kernel
theorem dX7_isPlace_1 : decode cX7_isPlace 1 = .ok (.iconst 0, 1) := by decide +kernel
theorem dX7_isPlace_2 : decode cX7_isPlace 2 = .ok (.bipush 9, 2) := by decide +kernel
theorem dX7_isPlace_4 : decode cX7_isPlace 4 = .ok (.invokestatic 26, 3) := by decide +kernel
theorem dX7_isPlace_7 : decode cX7_isPlace 7 = .ok (.ireturn, 1) := by decide +kernel
theorem dX7_canBe_0 : decode cX7_canBe 0 = .ok (.iload_n 0, 1) := by decide +kernel
theorem dX7_canBe_1 : decode cX7_canBe 1 = .ok (.tableswitch 47 0 3 #[31, 31, 40, 42], 31) := by decide +kernel
theorem dX7_canBe_32 : decode cX7_canBe 32 = .ok (.iload_n 1, 1) := by decide +kernel
theorem dX7_canBe_33 : decode cX7_canBe 33 = .ok (.iconst 0, 1) := by decide +kernel
theorem dX7_canBe_34 : decode cX7_canBe 34 = .ok (.sipush 9999, 3) := by decide +kernel
theorem dX7_canBe_37 : decode cX7_canBe 37 = .ok (.invokestatic 26, 3) := by decide +kernel
theorem dX7_canBe_40 : decode cX7_canBe 40 = .ok (.ireturn, 1) := by decide +kernel
theorem dX7_canBe_41 : decode cX7_canBe 41 = .ok (.iconst 1, 1) := by decide +kernel
theorem dX7_canBe_42 : decode cX7_canBe 42 = .ok (.ireturn, 1) := by decide +kernel
theorem dX7_canBe_43 : decode cX7_canBe 43 = .ok (.iload_n 1, 1) := by decide +kernel
theorem dX7_canBe_44 : decode cX7_canBe 44 = .ok (.invokestatic 36, 3) := by decide +kernel
theorem dX7_canBe_47 : decode cX7_canBe 47 = .ok (.ireturn, 1) := by decide +kernel
theorem dX7_canBe_48 : decode cX7_canBe 48 = .ok (.iconst 0, 1) := by decide +kernel
theorem dX7_canBe_49 : decode cX7_canBe 49 = .ok (.ireturn, 1) := by decide +kernel
theorem dX7_add_0 : decode cX7_add 0 = .ok (.aload_n 0, 1) := by decide +kernel
theorem dX7_add_1 : decode cX7_add 1 = .ok (.getfield 11, 3) := by decide +kernel
theorem dX7_add_4 : decode cX7_add 4 = .ok (.iload_n 1, 1) := by decide +kernel
theorem dX7_add_5 : decode cX7_add 5 = .ok (.invokestatic 39, 3) := by decide +kernel
theorem dX7_add_8 : decode cX7_add 8 = .ok (.istore 5, 2) := by decide +kernel
theorem dX7_add_10 : decode cX7_add 10 = .ok (.iload_n 1, 1) := by decide +kernel
theorem dX7_add_11 : decode cX7_add 11 = .ok (.bipush 20, 2) := by decide +kernel
theorem dX7_add_13 : decode cX7_add 13 = .ok (.imul, 1) := by decide +kernel
theorem dX7_add_14 : decode cX7_add 14 = .ok (.iload 5, 2) := by decide +kernel
theorem dX7_add_16 : decode cX7_add 16 = .ok (.iadd, 1) := by decide +kernel
theorem dX7_add_17 : decode cX7_add 17 = .ok (.istore 6, 2) := by decide +kernel
theorem dX7_add_19 : decode cX7_add 19 = .ok (.iload 5, 2) := by decide +kernel
theorem dX7_add_21 : decode cX7_add 21 = .ok (.ifCond .ne 7, 3) := by decide +kernel
theorem dX7_add_24 : decode cX7_add 24 = .ok (.iconst 0, 1) := by decide +kernel
theorem dX7_add_25 : decode cX7_add 25 = .ok (.goto 14, 3) := by decide +kernel
theorem dX7_add_28 : decode cX7_add 28 = .ok (.aload_n 0, 1) := by decide +kernel
theorem dX7_add_29 : decode cX7_add 29 = .ok (.getfield 17, 3) := by decide +kernel
theorem dX7_add_32 : decode cX7_add 32 = .ok (.iload 6, 2) := by decide +kernel
theorem dX7_add_34 : decode cX7_add 34 = .ok (.iconst 1, 1) := by decide +kernel
theorem dX7_add_35 : decode cX7_add 35 = .ok (.isub, 1) := by decide +kernel
theorem dX7_add_36 : decode cX7_add 36 = .ok (.invokestatic 39, 3) := by decide +kernel
theorem dX7_add_39 : decode cX7_add 39 = .ok (.istore 7, 2) := by decide +kernel
theorem dX7_add_41 : decode cX7_add 41 = .ok (.iload 5, 2) := by decide +kernel
theorem dX7_add_43 : decode cX7_add 43 = .ok (.bipush 20, 2) := by decide +kernel
theorem dX7_add_45 : decode cX7_add 45 = .ok (.if_icmp .ge 25, 3) := by decide +kernel
theorem dX7_add_48 : decode cX7_add 48 = .ok (.iload_n 2, 1) := by decide +kernel
theorem dX7_add_49 : decode cX7_add 49 = .ok (.invokestatic 32, 3) := by decide +kernel
theorem dX7_add_52 : decode cX7_add 52 = .ok (.ifCond .eq 18, 3) := by decide +kernel
theorem dX7_add_55 : decode cX7_add 55 = .ok (.iload_n 2, 1) := by decide +kernel
theorem dX7_add_56 : decode cX7_add 56 = .ok (.iload 7, 2) := by decide +kernel
theorem dX7_add_58 : decode cX7_add 58 = .ok (.if_icmp .lt 12, 3) := by decide +kernel
theorem dX7_add_61 : decode cX7_add 61 = .ok (.iload_n 3, 1) := by decide +kernel
theorem dX7_add_62 : decode cX7_add 62 = .ok (.iload 4, 2) := by decide +kernel
theorem dX7_add_64 : decode cX7_add 64 = .ok (.invokestatic 43, 3) := by decide +kernel
theorem dX7_add_67 : decode cX7_add 67 = .ok (.ifCond .ne 5, 3) := by decide +kernel
theorem dX7_add_70 : decode cX7_add 70 = .ok (.iconst (-1), 1) := by decide +kernel
theorem dX7_add_71 : decode cX7_add 71 = .ok (.ireturn, 1) := by decide +kernel
theorem dX7_add_72 : decode cX7_add 72 = .ok (.aload_n 0, 1) := by decide +kernel
theorem dX7_add_73 : decode cX7_add 73 = .ok (.getfield 17, 3) := by decide +kernel
theorem dX7_add_76 : decode cX7_add 76 = .ok (.iload 6, 2) := by decide +kernel
theorem dX7_add_78 : decode cX7_add 78 = .ok (.iload_n 2, 1) := by decide +kernel
theorem dX7_add_79 : decode cX7_add 79 = .ok (.invokestatic 47, 3) := by decide +kernel
theorem dX7_add_82 : decode cX7_add 82 = .ok (.aload_n 0, 1) := by decide +kernel
theorem dX7_add_83 : decode cX7_add 83 = .ok (.getfield 20, 3) := by decide +kernel
theorem dX7_add_86 : decode cX7_add 86 = .ok (.iload 6, 2) := by decide +kernel
theorem dX7_add_88 : decode cX7_add 88 = .ok (.iload_n 3, 1) := by decide +kernel
theorem dX7_add_89 : decode cX7_add 89 = .ok (.invokestatic 47, 3) := by decide +kernel
theorem dX7_add_92 : decode cX7_add 92 = .ok (.aload_n 0, 1) := by decide +kernel
theorem dX7_add_93 : decode cX7_add 93 = .ok (.getfield 23, 3) := by decide +kernel
theorem dX7_add_96 : decode cX7_add 96 = .ok (.iload 6, 2) := by decide +kernel
theorem dX7_add_98 : decode cX7_add 98 = .ok (.iload 4, 2) := by decide +kernel
theorem dX7_add_100 : decode cX7_add 100 = .ok (.invokestatic 47, 3) := by decide +kernel
theorem dX7_add_103 : decode cX7_add 103 = .ok (.aload_n 0, 1) := by decide +kernel
theorem dX7_add_104 : decode cX7_add 104 = .ok (.getfield 11, 3) := by decide +kernel
theorem dX7_add_107 : decode cX7_add 107 = .ok (.iload_n 1, 1) := by decide +kernel
theorem dX7_add_108 : decode cX7_add 108 = .ok (.iload 5, 2) := by decide +kernel
theorem dX7_add_110 : decode cX7_add 110 = .ok (.iconst 1, 1) := by decide +kernel
theorem dX7_add_111 : decode cX7_add 111 = .ok (.iadd, 1) := by decide +kernel
theorem dX7_add_112 : decode cX7_add 112 = .ok (.invokestatic 47, 3) := by decide +kernel
theorem dX7_add_115 : decode cX7_add 115 = .ok (.iload 5, 2) := by decide +kernel
theorem dX7_add_117 : decode cX7_add 117 = .ok (.iconst 1, 1) := by decide +kernel
theorem dX7_add_118 : decode cX7_add 118 = .ok (.iadd, 1) := by decide +kernel
theorem dX7_add_119 : decode cX7_add 119 = .ok (.ireturn, 1) := by decide +kernel
theorem dX7_follow_0 : decode cX7_follow 0 = .ok (.iconst 0, 1) := by decide +kernel
theorem dX7_follow_1 : decode cX7_follow 1 = .ok (.istore_n 2, 1) := by decide +kernel
theorem dX7_follow_2 : decode cX7_follow 2 = .ok (.iconst 0, 1) := by decide +kernel
theorem dX7_follow_3 : decode cX7_follow 3 = .ok (.istore_n 3, 1) := by decide +kernel
theorem dX7_follow_4 : decode cX7_follow 4 = .ok (.aload_n 0, 1) := by decide +kernel
theorem dX7_follow_5 : decode cX7_follow 5 = .ok (.iconst 0, 1) := by decide +kernel
theorem dX7_follow_6 : decode cX7_follow 6 = .ok (.putfield 51, 3) := by decide +kernel
theorem dX7_follow_9 : decode cX7_follow 9 = .ok (.aload_n 0, 1) := by decide +kernel
theorem dX7_follow_10 : decode cX7_follow 10 = .ok (.iconst 0, 1) := by decide +kernel
theorem dX7_follow_11 : decode cX7_follow 11 = .ok (.invokestatic 55, 3) := by decide +kernel
theorem dX7_follow_14 : decode cX7_follow 14 = .ok (.putfield 59, 3) := by decide +kernel
theorem dX7_follow_17 : decode cX7_follow 17 = .ok (.iconst 0, 1) := by decide +kernel
theorem dX7_follow_18 : decode cX7_follow 18 = .ok (.istore 4, 2) := by decide +kernel
theorem dX7_follow_20 : decode cX7_follow 20 = .ok (.iload 4, 2) := by decide +kernel
theorem dX7_follow_22 : decode cX7_follow 22 = .ok (.aload_n 0, 1) := by decide +kernel
theorem dX7_follow_23 : decode cX7_follow 23 = .ok (.getfield 11, 3) := by decide +kernel
theorem dX7_follow_26 : decode cX7_follow 26 = .ok (.iload_n 1, 1) := by decide +kernel
theorem dX7_follow_27 : decode cX7_follow 27 = .ok (.invokestatic 39, 3) := by decide +kernel
theorem dX7_follow_30 : decode cX7_follow 30 = .ok (.if_icmp .ge 157, 3) := by decide +kernel
theorem dX7_follow_33 : decode cX7_follow 33 = .ok (.aload_n 0, 1) := by decide +kernel
theorem dX7_follow_34 : decode cX7_follow 34 = .ok (.getfield 20, 3) := by decide +kernel
theorem dX7_follow_37 : decode cX7_follow 37 = .ok (.iload_n 1, 1) := by decide +kernel
theorem dX7_follow_38 : decode cX7_follow 38 = .ok (.bipush 20, 2) := by decide +kernel
theorem dX7_follow_40 : decode cX7_follow 40 = .ok (.imul, 1) := by decide +kernel
theorem dX7_follow_41 : decode cX7_follow 41 = .ok (.iload 4, 2) := by decide +kernel
theorem dX7_follow_43 : decode cX7_follow 43 = .ok (.iadd, 1) := by decide +kernel
theorem dX7_follow_44 : decode cX7_follow 44 = .ok (.invokestatic 39, 3) := by decide +kernel
theorem dX7_follow_47 : decode cX7_follow 47 = .ok (.istore 5, 2) := by decide +kernel
theorem dX7_follow_49 : decode cX7_follow 49 = .ok (.aload_n 0, 1) := by decide +kernel
theorem dX7_follow_50 : decode cX7_follow 50 = .ok (.getfield 23, 3) := by decide +kernel
theorem dX7_follow_53 : decode cX7_follow 53 = .ok (.iload_n 1, 1) := by decide +kernel
theorem dX7_follow_54 : decode cX7_follow 54 = .ok (.bipush 20, 2) := by decide +kernel
theorem dX7_follow_56 : decode cX7_follow 56 = .ok (.imul, 1) := by decide +kernel
theorem dX7_follow_57 : decode cX7_follow 57 = .ok (.iload 4, 2) := by decide +kernel
theorem dX7_follow_59 : decode cX7_follow 59 = .ok (.iadd, 1) := by decide +kernel
theorem dX7_follow_60 : decode cX7_follow 60 = .ok (.invokestatic 39, 3) := by decide +kernel
theorem dX7_follow_63 : decode cX7_follow 63 = .ok (.istore 6, 2) := by decide +kernel
theorem dX7_follow_65 : decode cX7_follow 65 = .ok (.iload 5, 2) := by decide +kernel
theorem dX7_follow_67 : decode cX7_follow 67 = .ok (.ifCond .ne 33, 3) := by decide +kernel
theorem dX7_follow_70 : decode cX7_follow 70 = .ok (.aload_n 0, 1) := by decide +kernel
theorem dX7_follow_71 : decode cX7_follow 71 = .ok (.dup, 1) := by decide +kernel
theorem dX7_follow_72 : decode cX7_follow 72 = .ok (.getfield 51, 3) := by decide +kernel
theorem dX7_follow_75 : decode cX7_follow 75 = .ok (.iload_n 2, 1) := by decide +kernel
theorem dX7_follow_76 : decode cX7_follow 76 = .ok (.ifCond .eq 11, 3) := by decide +kernel
theorem dX7_follow_79 : decode cX7_follow 79 = .ok (.iload 4, 2) := by decide +kernel
theorem dX7_follow_81 : decode cX7_follow 81 = .ok (.invokestatic 55, 3) := by decide +kernel
theorem dX7_follow_84 : decode cX7_follow 84 = .ok (.goto 4, 3) := by decide +kernel
theorem dX7_follow_87 : decode cX7_follow 87 = .ok (.iconst 0, 1) := by decide +kernel
theorem dX7_follow_88 : decode cX7_follow 88 = .ok (.ior, 1) := by decide +kernel
theorem dX7_follow_89 : decode cX7_follow 89 = .ok (.putfield 51, 3) := by decide +kernel
theorem dX7_follow_92 : decode cX7_follow 92 = .ok (.iconst 1, 1) := by decide +kernel
theorem dX7_follow_93 : decode cX7_follow 93 = .ok (.istore_n 2, 1) := by decide +kernel
theorem dX7_follow_94 : decode cX7_follow 94 = .ok (.iload 6, 2) := by decide +kernel
theorem dX7_follow_96 : decode cX7_follow 96 = .ok (.istore_n 3, 1) := by decide +kernel
theorem dX7_follow_97 : decode cX7_follow 97 = .ok (.goto 60, 3) := by decide +kernel
theorem dX7_follow_100 : decode cX7_follow 100 = .ok (.iload 5, 2) := by decide +kernel
theorem dX7_follow_102 : decode cX7_follow 102 = .ok (.iconst 1, 1) := by decide +kernel
theorem dX7_follow_103 : decode cX7_follow 103 = .ok (.if_icmp .ne 46, 3) := by decide +kernel
theorem dX7_follow_106 : decode cX7_follow 106 = .ok (.iload_n 2, 1) := by decide +kernel
theorem dX7_follow_107 : decode cX7_follow 107 = .ok (.ifCond .eq 9, 3) := by decide +kernel
theorem dX7_follow_110 : decode cX7_follow 110 = .ok (.iload 6, 2) := by decide +kernel
theorem dX7_follow_112 : decode cX7_follow 112 = .ok (.iload_n 3, 1) := by decide +kernel
theorem dX7_follow_113 : decode cX7_follow 113 = .ok (.if_icmp .eq 36, 3) := by decide +kernel
theorem dX7_follow_116 : decode cX7_follow 116 = .ok (.aload_n 0, 1) := by decide +kernel
theorem dX7_follow_117 : decode cX7_follow 117 = .ok (.dup, 1) := by decide +kernel
theorem dX7_follow_118 : decode cX7_follow 118 = .ok (.getfield 51, 3) := by decide +kernel
theorem dX7_follow_121 : decode cX7_follow 121 = .ok (.iload 4, 2) := by decide +kernel
theorem dX7_follow_123 : decode cX7_follow 123 = .ok (.invokestatic 55, 3) := by decide +kernel
theorem dX7_follow_126 : decode cX7_follow 126 = .ok (.ior, 1) := by decide +kernel
theorem dX7_follow_127 : decode cX7_follow 127 = .ok (.putfield 51, 3) := by decide +kernel
theorem dX7_follow_130 : decode cX7_follow 130 = .ok (.aload_n 0, 1) := by decide +kernel
theorem dX7_follow_131 : decode cX7_follow 131 = .ok (.dup, 1) := by decide +kernel
theorem dX7_follow_132 : decode cX7_follow 132 = .ok (.getfield 59, 3) := by decide +kernel
theorem dX7_follow_135 : decode cX7_follow 135 = .ok (.iload 4, 2) := by decide +kernel
theorem dX7_follow_137 : decode cX7_follow 137 = .ok (.invokestatic 55, 3) := by decide +kernel
theorem dX7_follow_140 : decode cX7_follow 140 = .ok (.ior, 1) := by decide +kernel
theorem dX7_follow_141 : decode cX7_follow 141 = .ok (.putfield 59, 3) := by decide +kernel
theorem dX7_follow_144 : decode cX7_follow 144 = .ok (.iconst 0, 1) := by decide +kernel
theorem dX7_follow_145 : decode cX7_follow 145 = .ok (.istore_n 2, 1) := by decide +kernel
theorem dX7_follow_146 : decode cX7_follow 146 = .ok (.goto 11, 3) := by decide +kernel
theorem dX7_follow_149 : decode cX7_follow 149 = .ok (.iload 5, 2) := by decide +kernel
theorem dX7_follow_151 : decode cX7_follow 151 = .ok (.iconst 2, 1) := by decide +kernel
theorem dX7_follow_152 : decode cX7_follow 152 = .ok (.if_icmp .ne 5, 3) := by decide +kernel
theorem dX7_follow_155 : decode cX7_follow 155 = .ok (.iconst 0, 1) := by decide +kernel
theorem dX7_follow_156 : decode cX7_follow 156 = .ok (.istore_n 2, 1) := by decide +kernel
theorem dX7_follow_157 : decode cX7_follow 157 = .ok (.aload_n 0, 1) := by decide +kernel
theorem dX7_follow_158 : decode cX7_follow 158 = .ok (.dup, 1) := by decide +kernel
theorem dX7_follow_159 : decode cX7_follow 159 = .ok (.getfield 59, 3) := by decide +kernel
theorem dX7_follow_162 : decode cX7_follow 162 = .ok (.iload_n 2, 1) := by decide +kernel
theorem dX7_follow_163 : decode cX7_follow 163 = .ok (.ifCond .eq 7, 3) := by decide +kernel
theorem dX7_follow_166 : decode cX7_follow 166 = .ok (.iconst 0, 1) := by decide +kernel
theorem dX7_follow_167 : decode cX7_follow 167 = .ok (.goto 10, 3) := by decide +kernel
theorem dX7_follow_170 : decode cX7_follow 170 = .ok (.iload 4, 2) := by decide +kernel
theorem dX7_follow_172 : decode cX7_follow 172 = .ok (.iconst 1, 1) := by decide +kernel
theorem dX7_follow_173 : decode cX7_follow 173 = .ok (.iadd, 1) := by decide +kernel
theorem dX7_follow_174 : decode cX7_follow 174 = .ok (.invokestatic 55, 3) := by decide +kernel
theorem dX7_follow_177 : decode cX7_follow 177 = .ok (.ior, 1) := by decide +kernel
theorem dX7_follow_178 : decode cX7_follow 178 = .ok (.putfield 59, 3) := by decide +kernel
theorem dX7_follow_181 : decode cX7_follow 181 = .ok (.iinc 4 1, 3) := by decide +kernel
theorem dX7_follow_184 : decode cX7_follow 184 = .ok (.goto (-164), 3) := by decide +kernel
theorem dX7_follow_187 : decode cX7_follow 187 = .ok (.return_, 1) := by decide +kernel
theorem dX7_badEvents_0 : decode cX7_badEvents 0 = .ok (.aload_n 0, 1) := by decide +kernel
theorem dX7_badEvents_1 : decode cX7_badEvents 1 = .ok (.iload_n 1, 1) := by decide +kernel
theorem dX7_badEvents_2 : decode cX7_badEvents 2 = .ok (.invokevirtual 62, 3) := by decide +kernel
theorem dX7_badEvents_5 : decode cX7_badEvents 5 = .ok (.aload_n 0, 1) := by decide +kernel
theorem dX7_badEvents_6 : decode cX7_badEvents 6 = .ok (.getfield 51, 3) := by decide +kernel
theorem dX7_badEvents_9 : decode cX7_badEvents 9 = .ok (.ireturn, 1) := by decide +kernel
theorem dX7_openTime_0 : decode cX7_openTime 0 = .ok (.aload_n 0, 1) := by decide +kernel
theorem dX7_openTime_1 : decode cX7_openTime 1 = .ok (.iload_n 1, 1) := by decide +kernel
theorem dX7_openTime_2 : decode cX7_openTime 2 = .ok (.invokevirtual 62, 3) := by decide +kernel
theorem dX7_openTime_5 : decode cX7_openTime 5 = .ok (.aload_n 0, 1) := by decide +kernel
theorem dX7_openTime_6 : decode cX7_openTime 6 = .ok (.getfield 11, 3) := by decide +kernel
theorem dX7_openTime_9 : decode cX7_openTime 9 = .ok (.iload_n 1, 1) := by decide +kernel
theorem dX7_openTime_10 : decode cX7_openTime 10 = .ok (.invokestatic 39, 3) := by decide +kernel
theorem dX7_openTime_13 : decode cX7_openTime 13 = .ok (.istore 5, 2) := by decide +kernel
theorem dX7_openTime_15 : decode cX7_openTime 15 = .ok (.iconst 0, 1) := by decide +kernel
theorem dX7_openTime_16 : decode cX7_openTime 16 = .ok (.istore 6, 2) := by decide +kernel
theorem dX7_openTime_18 : decode cX7_openTime 18 = .ok (.iconst 0, 1) := by decide +kernel
theorem dX7_openTime_19 : decode cX7_openTime 19 = .ok (.istore 7, 2) := by decide +kernel
theorem dX7_openTime_21 : decode cX7_openTime 21 = .ok (.iconst 0, 1) := by decide +kernel
theorem dX7_openTime_22 : decode cX7_openTime 22 = .ok (.istore 8, 2) := by decide +kernel
theorem dX7_openTime_24 : decode cX7_openTime 24 = .ok (.iconst 0, 1) := by decide +kernel
theorem dX7_openTime_25 : decode cX7_openTime 25 = .ok (.istore 9, 2) := by decide +kernel
theorem dX7_openTime_27 : decode cX7_openTime 27 = .ok (.iload 9, 2) := by decide +kernel
theorem dX7_openTime_29 : decode cX7_openTime 29 = .ok (.iload 5, 2) := by decide +kernel
theorem dX7_openTime_31 : decode cX7_openTime 31 = .ok (.if_icmp .gt 118, 3) := by decide +kernel
theorem dX7_openTime_34 : decode cX7_openTime 34 = .ok (.iload_n 1, 1) := by decide +kernel
theorem dX7_openTime_35 : decode cX7_openTime 35 = .ok (.bipush 20, 2) := by decide +kernel
theorem dX7_openTime_37 : decode cX7_openTime 37 = .ok (.imul, 1) := by decide +kernel
theorem dX7_openTime_38 : decode cX7_openTime 38 = .ok (.iload 9, 2) := by decide +kernel
theorem dX7_openTime_40 : decode cX7_openTime 40 = .ok (.iadd, 1) := by decide +kernel
theorem dX7_openTime_41 : decode cX7_openTime 41 = .ok (.istore 10, 2) := by decide +kernel
theorem dX7_openTime_43 : decode cX7_openTime 43 = .ok (.iload 9, 2) := by decide +kernel
theorem dX7_openTime_45 : decode cX7_openTime 45 = .ok (.iload 5, 2) := by decide +kernel
theorem dX7_openTime_47 : decode cX7_openTime 47 = .ok (.if_icmp .ge 15, 3) := by decide +kernel
theorem dX7_openTime_50 : decode cX7_openTime 50 = .ok (.aload_n 0, 1) := by decide +kernel
theorem dX7_openTime_51 : decode cX7_openTime 51 = .ok (.getfield 17, 3) := by decide +kernel
theorem dX7_openTime_54 : decode cX7_openTime 54 = .ok (.iload 10, 2) := by decide +kernel
theorem dX7_openTime_56 : decode cX7_openTime 56 = .ok (.invokestatic 39, 3) := by decide +kernel
theorem dX7_openTime_59 : decode cX7_openTime 59 = .ok (.goto 6, 3) := by decide +kernel
theorem dX7_openTime_62 : decode cX7_openTime 62 = .ok (.sipush 9999, 3) := by decide +kernel
theorem dX7_openTime_65 : decode cX7_openTime 65 = .ok (.istore 11, 2) := by decide +kernel
theorem dX7_openTime_67 : decode cX7_openTime 67 = .ok (.aload_n 0, 1) := by decide +kernel
theorem dX7_openTime_68 : decode cX7_openTime 68 = .ok (.getfield 59, 3) := by decide +kernel
theorem dX7_openTime_71 : decode cX7_openTime 71 = .ok (.iload 9, 2) := by decide +kernel
theorem dX7_openTime_73 : decode cX7_openTime 73 = .ok (.invokestatic 66, 3) := by decide +kernel
theorem dX7_openTime_76 : decode cX7_openTime 76 = .ok (.ifCond .eq 32, 3) := by decide +kernel
theorem dX7_openTime_79 : decode cX7_openTime 79 = .ok (.iload 7, 2) := by decide +kernel
theorem dX7_openTime_81 : decode cX7_openTime 81 = .ok (.iload_n 2, 1) := by decide +kernel
theorem dX7_openTime_82 : decode cX7_openTime 82 = .ok (.if_icmp .eq 26, 3) := by decide +kernel
theorem dX7_openTime_85 : decode cX7_openTime 85 = .ok (.iload 8, 2) := by decide +kernel
theorem dX7_openTime_87 : decode cX7_openTime 87 = .ok (.iconst 0, 1) := by decide +kernel
theorem dX7_openTime_88 : decode cX7_openTime 88 = .ok (.iload 11, 2) := by decide +kernel
theorem dX7_openTime_90 : decode cX7_openTime 90 = .ok (.iload 4, 2) := by decide +kernel
theorem dX7_openTime_92 : decode cX7_openTime 92 = .ok (.invokestatic 69, 3) := by decide +kernel
theorem dX7_openTime_95 : decode cX7_openTime 95 = .ok (.iload 6, 2) := by decide +kernel
theorem dX7_openTime_97 : decode cX7_openTime 97 = .ok (.iload_n 3, 1) := by decide +kernel
theorem dX7_openTime_98 : decode cX7_openTime 98 = .ok (.invokestatic 75, 3) := by decide +kernel
theorem dX7_openTime_101 : decode cX7_openTime 101 = .ok (.isub, 1) := by decide +kernel
theorem dX7_openTime_102 : decode cX7_openTime 102 = .ok (.invokestatic 75, 3) := by decide +kernel
theorem dX7_openTime_105 : decode cX7_openTime 105 = .ok (.iadd, 1) := by decide +kernel
theorem dX7_openTime_106 : decode cX7_openTime 106 = .ok (.istore 8, 2) := by decide +kernel
theorem dX7_openTime_108 : decode cX7_openTime 108 = .ok (.iload 11, 2) := by decide +kernel
theorem dX7_openTime_110 : decode cX7_openTime 110 = .ok (.istore 6, 2) := by decide +kernel
theorem dX7_openTime_112 : decode cX7_openTime 112 = .ok (.iload 9, 2) := by decide +kernel
theorem dX7_openTime_114 : decode cX7_openTime 114 = .ok (.iload 5, 2) := by decide +kernel
theorem dX7_openTime_116 : decode cX7_openTime 116 = .ok (.if_icmp .ge 27, 3) := by decide +kernel
theorem dX7_openTime_119 : decode cX7_openTime 119 = .ok (.aload_n 0, 1) := by decide +kernel
theorem dX7_openTime_120 : decode cX7_openTime 120 = .ok (.getfield 20, 3) := by decide +kernel
theorem dX7_openTime_123 : decode cX7_openTime 123 = .ok (.iload 10, 2) := by decide +kernel
theorem dX7_openTime_125 : decode cX7_openTime 125 = .ok (.invokestatic 39, 3) := by decide +kernel
theorem dX7_openTime_128 : decode cX7_openTime 128 = .ok (.iconst 3, 1) := by decide +kernel
theorem dX7_openTime_129 : decode cX7_openTime 129 = .ok (.if_icmp .ne 14, 3) := by decide +kernel
theorem dX7_openTime_132 : decode cX7_openTime 132 = .ok (.aload_n 0, 1) := by decide +kernel
theorem dX7_openTime_133 : decode cX7_openTime 133 = .ok (.getfield 23, 3) := by decide +kernel
theorem dX7_openTime_136 : decode cX7_openTime 136 = .ok (.iload 10, 2) := by decide +kernel
theorem dX7_openTime_138 : decode cX7_openTime 138 = .ok (.invokestatic 39, 3) := by decide +kernel
theorem dX7_openTime_141 : decode cX7_openTime 141 = .ok (.istore 7, 2) := by decide +kernel
theorem dX7_openTime_143 : decode cX7_openTime 143 = .ok (.iinc 9 1, 3) := by decide +kernel
theorem dX7_openTime_146 : decode cX7_openTime 146 = .ok (.goto (-119), 3) := by decide +kernel
theorem dX7_openTime_149 : decode cX7_openTime 149 = .ok (.iload 8, 2) := by decide +kernel
theorem dX7_openTime_151 : decode cX7_openTime 151 = .ok (.ireturn, 1) := by decide +kernel
theorem dX7_placeThen_0 : decode cX7_placeThen 0 = .ok (.iconst 0, 1) := by decide +kernel
theorem dX7_placeThen_1 : decode cX7_placeThen 1 = .ok (.istore_n 3, 1) := by decide +kernel
theorem dX7_placeThen_2 : decode cX7_placeThen 2 = .ok (.iconst 0, 1) := by decide +kernel
theorem dX7_placeThen_3 : decode cX7_placeThen 3 = .ok (.istore 4, 2) := by decide +kernel
theorem dX7_placeThen_5 : decode cX7_placeThen 5 = .ok (.iload 4, 2) := by decide +kernel
theorem dX7_placeThen_7 : decode cX7_placeThen 7 = .ok (.aload_n 0, 1) := by decide +kernel
theorem dX7_placeThen_8 : decode cX7_placeThen 8 = .ok (.getfield 11, 3) := by decide +kernel
theorem dX7_placeThen_11 : decode cX7_placeThen 11 = .ok (.iload_n 1, 1) := by decide +kernel
theorem dX7_placeThen_12 : decode cX7_placeThen 12 = .ok (.invokestatic 39, 3) := by decide +kernel
theorem dX7_placeThen_15 : decode cX7_placeThen 15 = .ok (.if_icmp .ge 54, 3) := by decide +kernel
theorem dX7_placeThen_18 : decode cX7_placeThen 18 = .ok (.iload_n 1, 1) := by decide +kernel
theorem dX7_placeThen_19 : decode cX7_placeThen 19 = .ok (.bipush 20, 2) := by decide +kernel
theorem dX7_placeThen_21 : decode cX7_placeThen 21 = .ok (.imul, 1) := by decide +kernel
theorem dX7_placeThen_22 : decode cX7_placeThen 22 = .ok (.iload 4, 2) := by decide +kernel
theorem dX7_placeThen_24 : decode cX7_placeThen 24 = .ok (.iadd, 1) := by decide +kernel
theorem dX7_placeThen_25 : decode cX7_placeThen 25 = .ok (.istore 5, 2) := by decide +kernel
theorem dX7_placeThen_27 : decode cX7_placeThen 27 = .ok (.aload_n 0, 1) := by decide +kernel
theorem dX7_placeThen_28 : decode cX7_placeThen 28 = .ok (.getfield 20, 3) := by decide +kernel
theorem dX7_placeThen_31 : decode cX7_placeThen 31 = .ok (.iload 5, 2) := by decide +kernel
theorem dX7_placeThen_33 : decode cX7_placeThen 33 = .ok (.invokestatic 39, 3) := by decide +kernel
theorem dX7_placeThen_36 : decode cX7_placeThen 36 = .ok (.iconst 3, 1) := by decide +kernel
theorem dX7_placeThen_37 : decode cX7_placeThen 37 = .ok (.if_icmp .ne 26, 3) := by decide +kernel
theorem dX7_placeThen_40 : decode cX7_placeThen 40 = .ok (.aload_n 0, 1) := by decide +kernel
theorem dX7_placeThen_41 : decode cX7_placeThen 41 = .ok (.getfield 17, 3) := by decide +kernel
theorem dX7_placeThen_44 : decode cX7_placeThen 44 = .ok (.iload 5, 2) := by decide +kernel
theorem dX7_placeThen_46 : decode cX7_placeThen 46 = .ok (.invokestatic 39, 3) := by decide +kernel
theorem dX7_placeThen_49 : decode cX7_placeThen 49 = .ok (.iload_n 2, 1) := by decide +kernel
theorem dX7_placeThen_50 : decode cX7_placeThen 50 = .ok (.if_icmp .gt 13, 3) := by decide +kernel
theorem dX7_placeThen_53 : decode cX7_placeThen 53 = .ok (.aload_n 0, 1) := by decide +kernel
theorem dX7_placeThen_54 : decode cX7_placeThen 54 = .ok (.getfield 23, 3) := by decide +kernel
theorem dX7_placeThen_57 : decode cX7_placeThen 57 = .ok (.iload 5, 2) := by decide +kernel
theorem dX7_placeThen_59 : decode cX7_placeThen 59 = .ok (.invokestatic 39, 3) := by decide +kernel
theorem dX7_placeThen_62 : decode cX7_placeThen 62 = .ok (.istore_n 3, 1) := by decide +kernel
theorem dX7_placeThen_63 : decode cX7_placeThen 63 = .ok (.iinc 4 1, 3) := by decide +kernel
theorem dX7_placeThen_66 : decode cX7_placeThen 66 = .ok (.goto (-61), 3) := by decide +kernel
theorem dX7_placeThen_69 : decode cX7_placeThen 69 = .ok (.iload_n 3, 1) := by decide +kernel
theorem dX7_placeThen_70 : decode cX7_placeThen 70 = .ok (.ireturn, 1) := by decide +kernel
theorem dX8_init_0 : decode cX8_init 0 = .ok (.aload_n 0, 1) := by decide +kernel
theorem dX8_init_1 : decode cX8_init 1 = .ok (.invokespecial 5, 3) := by decide +kernel
theorem dX8_init_4 : decode cX8_init 4 = .ok (.aload_n 0, 1) := by decide +kernel
theorem dX8_init_5 : decode cX8_init 5 = .ok (.sipush 1536, 3) := by decide +kernel
theorem dX8_init_8 : decode cX8_init 8 = .ok (.newarray .int, 2) := by decide +kernel
theorem dX8_init_10 : decode cX8_init 10 = .ok (.putfield 15, 3) := by decide +kernel
theorem dX8_init_13 : decode cX8_init 13 = .ok (.aload_n 0, 1) := by decide +kernel
theorem dX8_init_14 : decode cX8_init 14 = .ok (.sipush 1536, 3) := by decide +kernel
theorem dX8_init_17 : decode cX8_init 17 = .ok (.newarray .int, 2) := by decide +kernel
theorem dX8_init_19 : decode cX8_init 19 = .ok (.putfield 19, 3) := by decide +kernel
theorem dX8_init_22 : decode cX8_init 22 = .ok (.aload_n 0, 1) := by decide +kernel
theorem dX8_init_23 : decode cX8_init 23 = .ok (.bipush 16, 2) := by decide +kernel
theorem dX8_init_25 : decode cX8_init 25 = .ok (.newarray .int, 2) := by decide +kernel
theorem dX8_init_27 : decode cX8_init 27 = .ok (.putfield 22, 3) := by decide +kernel
theorem dX8_init_30 : decode cX8_init 30 = .ok (.aload_n 0, 1) := by decide +kernel
theorem dX8_init_31 : decode cX8_init 31 = .ok (.bipush 16, 2) := by decide +kernel
theorem dX8_init_33 : decode cX8_init 33 = .ok (.newarray .int, 2) := by decide +kernel
theorem dX8_init_35 : decode cX8_init 35 = .ok (.putfield 25, 3) := by decide +kernel
theorem dX8_init_38 : decode cX8_init 38 = .ok (.aload_n 0, 1) := by decide +kernel
theorem dX8_init_39 : decode cX8_init 39 = .ok (.aload_n 1, 1) := by decide +kernel
theorem dX8_init_40 : decode cX8_init 40 = .ok (.putfield 28, 3) := by decide +kernel
theorem dX8_init_43 : decode cX8_init 43 = .ok (.aload_n 0, 1) := by decide +kernel
theorem dX8_init_44 : decode cX8_init 44 = .ok (.aload_n 2, 1) := by decide +kernel
theorem dX8_init_45 : decode cX8_init 45 = .ok (.putfield 32, 3) := by decide +kernel
theorem dX8_init_48 : decode cX8_init 48 = .ok (.aload_n 0, 1) := by decide +kernel
theorem dX8_init_49 : decode cX8_init 49 = .ok (.aload_n 3, 1) := by decide +kernel
theorem dX8_init_50 : decode cX8_init 50 = .ok (.putfield 36, 3) := by decide +kernel
theorem dX8_init_53 : decode cX8_init 53 = .ok (.return_, 1) := by decide +kernel
theorem dX8_counts_0 : decode cX8_counts 0 = .ok (.aload_n 0, 1) := by decide +kernel
theorem dX8_counts_1 : decode cX8_counts 1 = .ok (.getfield 32, 3) := by decide +kernel
theorem dX8_counts_4 : decode cX8_counts 4 = .ok (.getfield 40, 3) := by decide +kernel
theorem dX8_counts_7 : decode cX8_counts 7 = .ok (.iload_n 1, 1) := by decide +kernel
theorem dX8_counts_8 : decode cX8_counts 8 = .ok (.invokestatic 43, 3) := by decide +kernel
theorem dX8_counts_11 : decode cX8_counts 11 = .ok (.istore_n 3, 1) := by decide +kernel
theorem dX8_counts_12 : decode cX8_counts 12 = .ok (.iload_n 3, 1) := by decide +kernel
theorem dX8_counts_13 : decode cX8_counts 13 = .ok (.iconst (-1), 1) := by decide +kernel
theorem dX8_counts_14 : decode cX8_counts 14 = .ok (.if_icmp .eq 8, 3) := by decide +kernel
theorem dX8_counts_17 : decode cX8_counts 17 = .ok (.iload_n 3, 1) := by decide +kernel
theorem dX8_counts_18 : decode cX8_counts 18 = .ok (.iload_n 2, 1) := by decide +kernel
theorem dX8_counts_19 : decode cX8_counts 19 = .ok (.if_icmp .ne 19, 3) := by decide +kernel
theorem dX8_counts_22 : decode cX8_counts 22 = .ok (.aload_n 0, 1) := by decide +kernel
theorem dX8_counts_23 : decode cX8_counts 23 = .ok (.getfield 36, 3) := by decide +kernel
theorem dX8_counts_26 : decode cX8_counts 26 = .ok (.iload_n 1, 1) := by decide +kernel
theorem dX8_counts_27 : decode cX8_counts 27 = .ok (.iload_n 2, 1) := by decide +kernel
theorem dX8_counts_28 : decode cX8_counts 28 = .ok (.invokevirtual 49, 3) := by decide +kernel
theorem dX8_counts_31 : decode cX8_counts 31 = .ok (.ifCond .eq 7, 3) := by decide +kernel
theorem dX8_counts_34 : decode cX8_counts 34 = .ok (.iconst 1, 1) := by decide +kernel
theorem dX8_counts_35 : decode cX8_counts 35 = .ok (.goto 4, 3) := by decide +kernel
theorem dX8_counts_38 : decode cX8_counts 38 = .ok (.iconst 0, 1) := by decide +kernel
theorem dX8_counts_39 : decode cX8_counts 39 = .ok (.ireturn, 1) := by decide +kernel
theorem dX8_pullsAt_0 : decode cX8_pullsAt 0 = .ok (.iconst (-1), 1) := by decide +kernel
theorem dX8_pullsAt_1 : decode cX8_pullsAt 1 = .ok (.istore 4, 2) := by decide +kernel
theorem dX8_pullsAt_3 : decode cX8_pullsAt 3 = .ok (.iconst 0, 1) := by decide +kernel
theorem dX8_pullsAt_4 : decode cX8_pullsAt 4 = .ok (.istore 5, 2) := by decide +kernel
theorem dX8_pullsAt_6 : decode cX8_pullsAt 6 = .ok (.iload 5, 2) := by decide +kernel
theorem dX8_pullsAt_8 : decode cX8_pullsAt 8 = .ok (.aload_n 0, 1) := by decide +kernel
theorem dX8_pullsAt_9 : decode cX8_pullsAt 9 = .ok (.getfield 36, 3) := by decide +kernel
theorem dX8_pullsAt_12 : decode cX8_pullsAt 12 = .ok (.iload_n 1, 1) := by decide +kernel
theorem dX8_pullsAt_13 : decode cX8_pullsAt 13 = .ok (.invokevirtual 55, 3) := by decide +kernel
theorem dX8_pullsAt_16 : decode cX8_pullsAt 16 = .ok (.if_icmp .ge 76, 3) := by decide +kernel
theorem dX8_pullsAt_19 : decode cX8_pullsAt 19 = .ok (.aload_n 0, 1) := by decide +kernel
theorem dX8_pullsAt_20 : decode cX8_pullsAt 20 = .ok (.iload_n 1, 1) := by decide +kernel
theorem dX8_pullsAt_21 : decode cX8_pullsAt 21 = .ok (.iload 5, 2) := by decide +kernel
theorem dX8_pullsAt_23 : decode cX8_pullsAt 23 = .ok (.invokevirtual 59, 3) := by decide +kernel
theorem dX8_pullsAt_26 : decode cX8_pullsAt 26 = .ok (.ifCond .ne 6, 3) := by decide +kernel
theorem dX8_pullsAt_29 : decode cX8_pullsAt 29 = .ok (.goto 57, 3) := by decide +kernel
theorem dX8_pullsAt_32 : decode cX8_pullsAt 32 = .ok (.iload_n 3, 1) := by decide +kernel
theorem dX8_pullsAt_33 : decode cX8_pullsAt 33 = .ok (.ifCond .ne 38, 3) := by decide +kernel
theorem dX8_pullsAt_36 : decode cX8_pullsAt 36 = .ok (.iload 4, 2) := by decide +kernel
theorem dX8_pullsAt_38 : decode cX8_pullsAt 38 = .ok (.iconst (-1), 1) := by decide +kernel
theorem dX8_pullsAt_39 : decode cX8_pullsAt 39 = .ok (.if_icmp .ne 14, 3) := by decide +kernel
theorem dX8_pullsAt_42 : decode cX8_pullsAt 42 = .ok (.aload_n 0, 1) := by decide +kernel
theorem dX8_pullsAt_43 : decode cX8_pullsAt 43 = .ok (.getfield 36, 3) := by decide +kernel
theorem dX8_pullsAt_46 : decode cX8_pullsAt 46 = .ok (.iload_n 2, 1) := by decide +kernel
theorem dX8_pullsAt_47 : decode cX8_pullsAt 47 = .ok (.invokevirtual 62, 3) := by decide +kernel
theorem dX8_pullsAt_50 : decode cX8_pullsAt 50 = .ok (.goto 16, 3) := by decide +kernel
theorem dX8_pullsAt_53 : decode cX8_pullsAt 53 = .ok (.iload 4, 2) := by decide +kernel
theorem dX8_pullsAt_55 : decode cX8_pullsAt 55 = .ok (.aload_n 0, 1) := by decide +kernel
theorem dX8_pullsAt_56 : decode cX8_pullsAt 56 = .ok (.getfield 36, 3) := by decide +kernel
theorem dX8_pullsAt_59 : decode cX8_pullsAt 59 = .ok (.iload_n 2, 1) := by decide +kernel
theorem dX8_pullsAt_60 : decode cX8_pullsAt 60 = .ok (.invokevirtual 62, 3) := by decide +kernel
theorem dX8_pullsAt_63 : decode cX8_pullsAt 63 = .ok (.invokestatic 65, 3) := by decide +kernel
theorem dX8_pullsAt_66 : decode cX8_pullsAt 66 = .ok (.istore 4, 2) := by decide +kernel
theorem dX8_pullsAt_68 : decode cX8_pullsAt 68 = .ok (.goto 18, 3) := by decide +kernel
theorem dX8_pullsAt_71 : decode cX8_pullsAt 71 = .ok (.iload 4, 2) := by decide +kernel
theorem dX8_pullsAt_73 : decode cX8_pullsAt 73 = .ok (.aload_n 0, 1) := by decide +kernel
theorem dX8_pullsAt_74 : decode cX8_pullsAt 74 = .ok (.getfield 36, 3) := by decide +kernel
theorem dX8_pullsAt_77 : decode cX8_pullsAt 77 = .ok (.iload_n 2, 1) := by decide +kernel
theorem dX8_pullsAt_78 : decode cX8_pullsAt 78 = .ok (.invokevirtual 71, 3) := by decide +kernel
theorem dX8_pullsAt_81 : decode cX8_pullsAt 81 = .ok (.invokestatic 74, 3) := by decide +kernel
theorem dX8_pullsAt_84 : decode cX8_pullsAt 84 = .ok (.istore 4, 2) := by decide +kernel
theorem dX8_pullsAt_86 : decode cX8_pullsAt 86 = .ok (.iinc 5 1, 3) := by decide +kernel
theorem dX8_pullsAt_89 : decode cX8_pullsAt 89 = .ok (.goto (-83), 3) := by decide +kernel
theorem dX8_pullsAt_92 : decode cX8_pullsAt 92 = .ok (.iload 4, 2) := by decide +kernel
theorem dX8_pullsAt_94 : decode cX8_pullsAt 94 = .ok (.ireturn, 1) := by decide +kernel
theorem dX8_pullsOverAll_0 : decode cX8_pullsOverAll 0 = .ok (.iconst 0, 1) := by decide +kernel
theorem dX8_pullsOverAll_1 : decode cX8_pullsOverAll 1 = .ok (.istore_n 3, 1) := by decide +kernel
theorem dX8_pullsOverAll_2 : decode cX8_pullsOverAll 2 = .ok (.iconst 0, 1) := by decide +kernel
theorem dX8_pullsOverAll_3 : decode cX8_pullsOverAll 3 = .ok (.istore 4, 2) := by decide +kernel
theorem dX8_pullsOverAll_5 : decode cX8_pullsOverAll 5 = .ok (.iload 4, 2) := by decide +kernel
theorem dX8_pullsOverAll_7 : decode cX8_pullsOverAll 7 = .ok (.aload_n 0, 1) := by decide +kernel
theorem dX8_pullsOverAll_8 : decode cX8_pullsOverAll 8 = .ok (.getfield 32, 3) := by decide +kernel
theorem dX8_pullsOverAll_11 : decode cX8_pullsOverAll 11 = .ok (.getfield 77, 3) := by decide +kernel
theorem dX8_pullsOverAll_14 : decode cX8_pullsOverAll 14 = .ok (.if_icmp .ge 32, 3) := by decide +kernel
theorem dX8_pullsOverAll_17 : decode cX8_pullsOverAll 17 = .ok (.aload_n 0, 1) := by decide +kernel
theorem dX8_pullsOverAll_18 : decode cX8_pullsOverAll 18 = .ok (.iload 4, 2) := by decide +kernel
theorem dX8_pullsOverAll_20 : decode cX8_pullsOverAll 20 = .ok (.iload_n 1, 1) := by decide +kernel
theorem dX8_pullsOverAll_21 : decode cX8_pullsOverAll 21 = .ok (.iload_n 2, 1) := by decide +kernel
theorem dX8_pullsOverAll_22 : decode cX8_pullsOverAll 22 = .ok (.invokevirtual 81, 3) := by decide +kernel
theorem dX8_pullsOverAll_25 : decode cX8_pullsOverAll 25 = .ok (.istore 5, 2) := by decide +kernel
theorem dX8_pullsOverAll_27 : decode cX8_pullsOverAll 27 = .ok (.iload 5, 2) := by decide +kernel
theorem dX8_pullsOverAll_29 : decode cX8_pullsOverAll 29 = .ok (.iconst (-1), 1) := by decide +kernel
theorem dX8_pullsOverAll_30 : decode cX8_pullsOverAll 30 = .ok (.if_icmp .ne 5, 3) := by decide +kernel
theorem dX8_pullsOverAll_33 : decode cX8_pullsOverAll 33 = .ok (.iconst (-1), 1) := by decide +kernel
theorem dX8_pullsOverAll_34 : decode cX8_pullsOverAll 34 = .ok (.ireturn, 1) := by decide +kernel
theorem dX8_pullsOverAll_35 : decode cX8_pullsOverAll 35 = .ok (.iload_n 3, 1) := by decide +kernel
theorem dX8_pullsOverAll_36 : decode cX8_pullsOverAll 36 = .ok (.iload 5, 2) := by decide +kernel
theorem dX8_pullsOverAll_38 : decode cX8_pullsOverAll 38 = .ok (.iadd, 1) := by decide +kernel
theorem dX8_pullsOverAll_39 : decode cX8_pullsOverAll 39 = .ok (.istore_n 3, 1) := by decide +kernel
theorem dX8_pullsOverAll_40 : decode cX8_pullsOverAll 40 = .ok (.iinc 4 1, 3) := by decide +kernel
theorem dX8_pullsOverAll_43 : decode cX8_pullsOverAll 43 = .ok (.goto (-38), 3) := by decide +kernel
theorem dX8_pullsOverAll_46 : decode cX8_pullsOverAll 46 = .ok (.iload_n 3, 1) := by decide +kernel
theorem dX8_pullsOverAll_47 : decode cX8_pullsOverAll 47 = .ok (.ireturn, 1) := by decide +kernel
theorem dX8_pair_0 : decode cX8_pair 0 = .ok (.iload_n 0, 1) := by decide +kernel
theorem dX8_pair_1 : decode cX8_pair 1 = .ok (.sipush 256, 3) := by decide +kernel
theorem dX8_pair_4 : decode cX8_pair 4 = .ok (.imul, 1) := by decide +kernel
theorem dX8_pair_5 : decode cX8_pair 5 = .ok (.iload_n 1, 1) := by decide +kernel
theorem dX8_pair_6 : decode cX8_pair 6 = .ok (.bipush 16, 2) := by decide +kernel
theorem dX8_pair_8 : decode cX8_pair 8 = .ok (.imul, 1) := by decide +kernel
theorem dX8_pair_9 : decode cX8_pair 9 = .ok (.iadd, 1) := by decide +kernel
theorem dX8_pair_10 : decode cX8_pair 10 = .ok (.iload_n 2, 1) := by decide +kernel
theorem dX8_pair_11 : decode cX8_pair 11 = .ok (.iadd, 1) := by decide +kernel
theorem dX8_pair_12 : decode cX8_pair 12 = .ok (.ireturn, 1) := by decide +kernel
theorem dX8_weigh_0 : decode cX8_weigh 0 = .ok (.iconst 0, 1) := by decide +kernel
theorem dX8_weigh_1 : decode cX8_weigh 1 = .ok (.istore_n 3, 1) := by decide +kernel
theorem dX8_weigh_2 : decode cX8_weigh 2 = .ok (.iload_n 3, 1) := by decide +kernel
theorem dX8_weigh_3 : decode cX8_weigh 3 = .ok (.aload_n 0, 1) := by decide +kernel
theorem dX8_weigh_4 : decode cX8_weigh 4 = .ok (.getfield 32, 3) := by decide +kernel
theorem dX8_weigh_7 : decode cX8_weigh 7 = .ok (.getfield 77, 3) := by decide +kernel
theorem dX8_weigh_10 : decode cX8_weigh 10 = .ok (.if_icmp .ge 99, 3) := by decide +kernel
theorem dX8_weigh_13 : decode cX8_weigh 13 = .ok (.iconst 0, 1) := by decide +kernel
theorem dX8_weigh_14 : decode cX8_weigh 14 = .ok (.istore 4, 2) := by decide +kernel
theorem dX8_weigh_16 : decode cX8_weigh 16 = .ok (.iload 4, 2) := by decide +kernel
theorem dX8_weigh_18 : decode cX8_weigh 18 = .ok (.sipush 256, 3) := by decide +kernel
theorem dX8_weigh_21 : decode cX8_weigh 21 = .ok (.if_icmp .ge 26, 3) := by decide +kernel
theorem dX8_weigh_24 : decode cX8_weigh 24 = .ok (.aload_n 0, 1) := by decide +kernel
theorem dX8_weigh_25 : decode cX8_weigh 25 = .ok (.getfield 15, 3) := by decide +kernel
theorem dX8_weigh_28 : decode cX8_weigh 28 = .ok (.iload_n 3, 1) := by decide +kernel
theorem dX8_weigh_29 : decode cX8_weigh 29 = .ok (.sipush 256, 3) := by decide +kernel
theorem dX8_weigh_32 : decode cX8_weigh 32 = .ok (.imul, 1) := by decide +kernel
theorem dX8_weigh_33 : decode cX8_weigh 33 = .ok (.iload 4, 2) := by decide +kernel
theorem dX8_weigh_35 : decode cX8_weigh 35 = .ok (.iadd, 1) := by decide +kernel
theorem dX8_weigh_36 : decode cX8_weigh 36 = .ok (.ldc 85, 2) := by decide +kernel
theorem dX8_weigh_38 : decode cX8_weigh 38 = .ok (.invokestatic 86, 3) := by decide +kernel
theorem dX8_weigh_41 : decode cX8_weigh 41 = .ok (.iinc 4 1, 3) := by decide +kernel
theorem dX8_weigh_44 : decode cX8_weigh 44 = .ok (.goto (-28), 3) := by decide +kernel
theorem dX8_weigh_47 : decode cX8_weigh 47 = .ok (.iconst 0, 1) := by decide +kernel
theorem dX8_weigh_48 : decode cX8_weigh 48 = .ok (.istore 4, 2) := by decide +kernel
theorem dX8_weigh_50 : decode cX8_weigh 50 = .ok (.iconst 0, 1) := by decide +kernel
theorem dX8_weigh_51 : decode cX8_weigh 51 = .ok (.istore 5, 2) := by decide +kernel
theorem dX8_weigh_53 : decode cX8_weigh 53 = .ok (.iload 5, 2) := by decide +kernel
theorem dX8_weigh_55 : decode cX8_weigh 55 = .ok (.aload_n 0, 1) := by decide +kernel
theorem dX8_weigh_56 : decode cX8_weigh 56 = .ok (.getfield 36, 3) := by decide +kernel
theorem dX8_weigh_59 : decode cX8_weigh 59 = .ok (.iload_n 3, 1) := by decide +kernel
theorem dX8_weigh_60 : decode cX8_weigh 60 = .ok (.invokevirtual 55, 3) := by decide +kernel
theorem dX8_weigh_63 : decode cX8_weigh 63 = .ok (.if_icmp .ge 33, 3) := by decide +kernel
theorem dX8_weigh_66 : decode cX8_weigh 66 = .ok (.aload_n 0, 1) := by decide +kernel
theorem dX8_weigh_67 : decode cX8_weigh 67 = .ok (.iload_n 3, 1) := by decide +kernel
theorem dX8_weigh_68 : decode cX8_weigh 68 = .ok (.iload 5, 2) := by decide +kernel
theorem dX8_weigh_70 : decode cX8_weigh 70 = .ok (.invokevirtual 59, 3) := by decide +kernel
theorem dX8_weigh_73 : decode cX8_weigh 73 = .ok (.ifCond .eq 17, 3) := by decide +kernel
theorem dX8_weigh_76 : decode cX8_weigh 76 = .ok (.iconst 1, 1) := by decide +kernel
theorem dX8_weigh_77 : decode cX8_weigh 77 = .ok (.istore 4, 2) := by decide +kernel
theorem dX8_weigh_79 : decode cX8_weigh 79 = .ok (.aload_n 0, 1) := by decide +kernel
theorem dX8_weigh_80 : decode cX8_weigh 80 = .ok (.aload_n 0, 1) := by decide +kernel
theorem dX8_weigh_81 : decode cX8_weigh 81 = .ok (.getfield 15, 3) := by decide +kernel
theorem dX8_weigh_84 : decode cX8_weigh 84 = .ok (.iload_n 3, 1) := by decide +kernel
theorem dX8_weigh_85 : decode cX8_weigh 85 = .ok (.iload_n 1, 1) := by decide +kernel
theorem dX8_weigh_86 : decode cX8_weigh 86 = .ok (.iload_n 2, 1) := by decide +kernel
theorem dX8_weigh_87 : decode cX8_weigh 87 = .ok (.invokevirtual 90, 3) := by decide +kernel
theorem dX8_weigh_90 : decode cX8_weigh 90 = .ok (.iinc 5 1, 3) := by decide +kernel
theorem dX8_weigh_93 : decode cX8_weigh 93 = .ok (.goto (-40), 3) := by decide +kernel
theorem dX8_weigh_96 : decode cX8_weigh 96 = .ok (.iload 4, 2) := by decide +kernel
theorem dX8_weigh_98 : decode cX8_weigh 98 = .ok (.ifCond .ne 5, 3) := by decide +kernel
theorem dX8_weigh_101 : decode cX8_weigh 101 = .ok (.iconst 0, 1) := by decide +kernel
theorem dX8_weigh_102 : decode cX8_weigh 102 = .ok (.ireturn, 1) := by decide +kernel
theorem dX8_weigh_103 : decode cX8_weigh 103 = .ok (.iinc 3 1, 3) := by decide +kernel
theorem dX8_weigh_106 : decode cX8_weigh 106 = .ok (.goto (-104), 3) := by decide +kernel
theorem dX8_weigh_109 : decode cX8_weigh 109 = .ok (.iconst 1, 1) := by decide +kernel
theorem dX8_weigh_110 : decode cX8_weigh 110 = .ok (.ireturn, 1) := by decide +kernel
theorem dX8_weighOpened_0 : decode cX8_weighOpened 0 = .ok (.iconst 0, 1) := by decide +kernel
theorem dX8_weighOpened_1 : decode cX8_weighOpened 1 = .ok (.istore_n 3, 1) := by decide +kernel
theorem dX8_weighOpened_2 : decode cX8_weighOpened 2 = .ok (.iload_n 3, 1) := by decide +kernel
theorem dX8_weighOpened_3 : decode cX8_weighOpened 3 = .ok (.aload_n 0, 1) := by decide +kernel
theorem dX8_weighOpened_4 : decode cX8_weighOpened 4 = .ok (.getfield 32, 3) := by decide +kernel
theorem dX8_weighOpened_7 : decode cX8_weighOpened 7 = .ok (.getfield 77, 3) := by decide +kernel
theorem dX8_weighOpened_10 : decode cX8_weighOpened 10 = .ok (.if_icmp .ge 73, 3) := by decide +kernel
theorem dX8_weighOpened_13 : decode cX8_weighOpened 13 = .ok (.iconst 0, 1) := by decide +kernel
theorem dX8_weighOpened_14 : decode cX8_weighOpened 14 = .ok (.istore 4, 2) := by decide +kernel
theorem dX8_weighOpened_16 : decode cX8_weighOpened 16 = .ok (.iload 4, 2) := by decide +kernel
theorem dX8_weighOpened_18 : decode cX8_weighOpened 18 = .ok (.sipush 256, 3) := by decide +kernel
theorem dX8_weighOpened_21 : decode cX8_weighOpened 21 = .ok (.if_icmp .ge 26, 3) := by decide +kernel
theorem dX8_weighOpened_24 : decode cX8_weighOpened 24 = .ok (.aload_n 0, 1) := by decide +kernel
theorem dX8_weighOpened_25 : decode cX8_weighOpened 25 = .ok (.getfield 19, 3) := by decide +kernel
theorem dX8_weighOpened_28 : decode cX8_weighOpened 28 = .ok (.iload_n 3, 1) := by decide +kernel
theorem dX8_weighOpened_29 : decode cX8_weighOpened 29 = .ok (.sipush 256, 3) := by decide +kernel
theorem dX8_weighOpened_32 : decode cX8_weighOpened 32 = .ok (.imul, 1) := by decide +kernel
theorem dX8_weighOpened_33 : decode cX8_weighOpened 33 = .ok (.iload 4, 2) := by decide +kernel
theorem dX8_weighOpened_35 : decode cX8_weighOpened 35 = .ok (.iadd, 1) := by decide +kernel
theorem dX8_weighOpened_36 : decode cX8_weighOpened 36 = .ok (.ldc 85, 2) := by decide +kernel
theorem dX8_weighOpened_38 : decode cX8_weighOpened 38 = .ok (.invokestatic 86, 3) := by decide +kernel
theorem dX8_weighOpened_41 : decode cX8_weighOpened 41 = .ok (.iinc 4 1, 3) := by decide +kernel
theorem dX8_weighOpened_44 : decode cX8_weighOpened 44 = .ok (.goto (-28), 3) := by decide +kernel
theorem dX8_weighOpened_47 : decode cX8_weighOpened 47 = .ok (.aload_n 0, 1) := by decide +kernel
theorem dX8_weighOpened_48 : decode cX8_weighOpened 48 = .ok (.getfield 36, 3) := by decide +kernel
theorem dX8_weighOpened_51 : decode cX8_weighOpened 51 = .ok (.iload_n 3, 1) := by decide +kernel
theorem dX8_weighOpened_52 : decode cX8_weighOpened 52 = .ok (.aload_n 0, 1) := by decide +kernel
theorem dX8_weighOpened_53 : decode cX8_weighOpened 53 = .ok (.getfield 36, 3) := by decide +kernel
theorem dX8_weighOpened_56 : decode cX8_weighOpened 56 = .ok (.iload_n 3, 1) := by decide +kernel
theorem dX8_weighOpened_57 : decode cX8_weighOpened 57 = .ok (.invokevirtual 94, 3) := by decide +kernel
theorem dX8_weighOpened_60 : decode cX8_weighOpened 60 = .ok (.invokevirtual 49, 3) := by decide +kernel
theorem dX8_weighOpened_63 : decode cX8_weighOpened 63 = .ok (.ifCond .eq 14, 3) := by decide +kernel
theorem dX8_weighOpened_66 : decode cX8_weighOpened 66 = .ok (.aload_n 0, 1) := by decide +kernel
theorem dX8_weighOpened_67 : decode cX8_weighOpened 67 = .ok (.aload_n 0, 1) := by decide +kernel
theorem dX8_weighOpened_68 : decode cX8_weighOpened 68 = .ok (.getfield 19, 3) := by decide +kernel
theorem dX8_weighOpened_71 : decode cX8_weighOpened 71 = .ok (.iload_n 3, 1) := by decide +kernel
theorem dX8_weighOpened_72 : decode cX8_weighOpened 72 = .ok (.iload_n 1, 1) := by decide +kernel
theorem dX8_weighOpened_73 : decode cX8_weighOpened 73 = .ok (.iload_n 2, 1) := by decide +kernel
theorem dX8_weighOpened_74 : decode cX8_weighOpened 74 = .ok (.invokevirtual 90, 3) := by decide +kernel
theorem dX8_weighOpened_77 : decode cX8_weighOpened 77 = .ok (.iinc 3 1, 3) := by decide +kernel
theorem dX8_weighOpened_80 : decode cX8_weighOpened 80 = .ok (.goto (-78), 3) := by decide +kernel
theorem dX8_weighOpened_83 : decode cX8_weighOpened 83 = .ok (.return_, 1) := by decide +kernel
theorem dX8_lower_0 : decode cX8_lower 0 = .ok (.iconst 0, 1) := by decide +kernel
theorem dX8_lower_1 : decode cX8_lower 1 = .ok (.istore 5, 2) := by decide +kernel
theorem dX8_lower_3 : decode cX8_lower 3 = .ok (.iload 5, 2) := by decide +kernel
theorem dX8_lower_5 : decode cX8_lower 5 = .ok (.aload_n 0, 1) := by decide +kernel
theorem dX8_lower_6 : decode cX8_lower 6 = .ok (.getfield 28, 3) := by decide +kernel
theorem dX8_lower_9 : decode cX8_lower 9 = .ok (.getfield 97, 3) := by decide +kernel
theorem dX8_lower_12 : decode cX8_lower 12 = .ok (.if_icmp .ge 100, 3) := by decide +kernel
theorem dX8_lower_15 : decode cX8_lower 15 = .ok (.iconst 0, 1) := by decide +kernel
theorem dX8_lower_16 : decode cX8_lower 16 = .ok (.istore 6, 2) := by decide +kernel
theorem dX8_lower_18 : decode cX8_lower 18 = .ok (.iload 4, 2) := by decide +kernel
theorem dX8_lower_20 : decode cX8_lower 20 = .ok (.iload 5, 2) := by decide +kernel
theorem dX8_lower_22 : decode cX8_lower 22 = .ok (.invokestatic 100, 3) := by decide +kernel
theorem dX8_lower_25 : decode cX8_lower 25 = .ok (.ifCond .eq 81, 3) := by decide +kernel
theorem dX8_lower_28 : decode cX8_lower 28 = .ok (.iload 6, 2) := by decide +kernel
theorem dX8_lower_30 : decode cX8_lower 30 = .ok (.aload_n 0, 1) := by decide +kernel
theorem dX8_lower_31 : decode cX8_lower 31 = .ok (.getfield 28, 3) := by decide +kernel
theorem dX8_lower_34 : decode cX8_lower 34 = .ok (.getfield 97, 3) := by decide +kernel
theorem dX8_lower_37 : decode cX8_lower 37 = .ok (.if_icmp .ge 69, 3) := by decide +kernel
theorem dX8_lower_40 : decode cX8_lower 40 = .ok (.aload_n 0, 1) := by decide +kernel
theorem dX8_lower_41 : decode cX8_lower 41 = .ok (.getfield 28, 3) := by decide +kernel
theorem dX8_lower_44 : decode cX8_lower 44 = .ok (.iload_n 3, 1) := by decide +kernel
theorem dX8_lower_45 : decode cX8_lower 45 = .ok (.invokevirtual 103, 3) := by decide +kernel
theorem dX8_lower_48 : decode cX8_lower 48 = .ok (.iload 6, 2) := by decide +kernel
theorem dX8_lower_50 : decode cX8_lower 50 = .ok (.invokestatic 100, 3) := by decide +kernel
theorem dX8_lower_53 : decode cX8_lower 53 = .ok (.ifCond .eq 47, 3) := by decide +kernel
theorem dX8_lower_56 : decode cX8_lower 56 = .ok (.iload_n 2, 1) := by decide +kernel
theorem dX8_lower_57 : decode cX8_lower 57 = .ok (.iload 5, 2) := by decide +kernel
theorem dX8_lower_59 : decode cX8_lower 59 = .ok (.iload 6, 2) := by decide +kernel
theorem dX8_lower_61 : decode cX8_lower 61 = .ok (.invokestatic 106, 3) := by decide +kernel
theorem dX8_lower_64 : decode cX8_lower 64 = .ok (.istore 7, 2) := by decide +kernel
theorem dX8_lower_66 : decode cX8_lower 66 = .ok (.aload_n 1, 1) := by decide +kernel
theorem dX8_lower_67 : decode cX8_lower 67 = .ok (.iload 7, 2) := by decide +kernel
theorem dX8_lower_69 : decode cX8_lower 69 = .ok (.aload_n 1, 1) := by decide +kernel
theorem dX8_lower_70 : decode cX8_lower 70 = .ok (.iload 7, 2) := by decide +kernel
theorem dX8_lower_72 : decode cX8_lower 72 = .ok (.invokestatic 43, 3) := by decide +kernel
theorem dX8_lower_75 : decode cX8_lower 75 = .ok (.aload_n 0, 1) := by decide +kernel
theorem dX8_lower_76 : decode cX8_lower 76 = .ok (.getfield 36, 3) := by decide +kernel
theorem dX8_lower_79 : decode cX8_lower 79 = .ok (.iload 5, 2) := by decide +kernel
theorem dX8_lower_81 : decode cX8_lower 81 = .ok (.invokevirtual 62, 3) := by decide +kernel
theorem dX8_lower_84 : decode cX8_lower 84 = .ok (.aload_n 0, 1) := by decide +kernel
theorem dX8_lower_85 : decode cX8_lower 85 = .ok (.getfield 36, 3) := by decide +kernel
theorem dX8_lower_88 : decode cX8_lower 88 = .ok (.iload 6, 2) := by decide +kernel
theorem dX8_lower_90 : decode cX8_lower 90 = .ok (.invokevirtual 71, 3) := by decide +kernel
theorem dX8_lower_93 : decode cX8_lower 93 = .ok (.isub, 1) := by decide +kernel
theorem dX8_lower_94 : decode cX8_lower 94 = .ok (.invokestatic 65, 3) := by decide +kernel
theorem dX8_lower_97 : decode cX8_lower 97 = .ok (.invokestatic 86, 3) := by decide +kernel
theorem dX8_lower_100 : decode cX8_lower 100 = .ok (.iinc 6 1, 3) := by decide +kernel
theorem dX8_lower_103 : decode cX8_lower 103 = .ok (.goto (-85), 3) := by decide +kernel
theorem dX8_lower_106 : decode cX8_lower 106 = .ok (.iinc 5 1, 3) := by decide +kernel
theorem dX8_lower_109 : decode cX8_lower 109 = .ok (.goto (-106), 3) := by decide +kernel
theorem dX8_lower_112 : decode cX8_lower 112 = .ok (.return_, 1) := by decide +kernel
theorem dX8_leastLead_0 : decode cX8_leastLead 0 = .ok (.aload_n 0, 1) := by decide +kernel
theorem dX8_leastLead_1 : decode cX8_leastLead 1 = .ok (.getfield 28, 3) := by decide +kernel
theorem dX8_leastLead_4 : decode cX8_leastLead 4 = .ok (.iload_n 1, 1) := by decide +kernel
theorem dX8_leastLead_5 : decode cX8_leastLead 5 = .ok (.invokevirtual 109, 3) := by decide +kernel
theorem dX8_leastLead_8 : decode cX8_leastLead 8 = .ok (.istore_n 3, 1) := by decide +kernel
theorem dX8_leastLead_9 : decode cX8_leastLead 9 = .ok (.iload_n 3, 1) := by decide +kernel
theorem dX8_leastLead_10 : decode cX8_leastLead 10 = .ok (.iconst (-1), 1) := by decide +kernel
theorem dX8_leastLead_11 : decode cX8_leastLead 11 = .ok (.if_icmp .eq 32, 3) := by decide +kernel
theorem dX8_leastLead_14 : decode cX8_leastLead 14 = .ok (.iload_n 1, 1) := by decide +kernel
theorem dX8_leastLead_15 : decode cX8_leastLead 15 = .ok (.iload_n 2, 1) := by decide +kernel
theorem dX8_leastLead_16 : decode cX8_leastLead 16 = .ok (.if_icmp .eq 27, 3) := by decide +kernel
theorem dX8_leastLead_19 : decode cX8_leastLead 19 = .ok (.aload_n 0, 1) := by decide +kernel
theorem dX8_leastLead_20 : decode cX8_leastLead 20 = .ok (.getfield 28, 3) := by decide +kernel
theorem dX8_leastLead_23 : decode cX8_leastLead 23 = .ok (.iload_n 2, 1) := by decide +kernel
theorem dX8_leastLead_24 : decode cX8_leastLead 24 = .ok (.invokevirtual 109, 3) := by decide +kernel
theorem dX8_leastLead_27 : decode cX8_leastLead 27 = .ok (.iload_n 3, 1) := by decide +kernel
theorem dX8_leastLead_28 : decode cX8_leastLead 28 = .ok (.if_icmp .ne 15, 3) := by decide +kernel
theorem dX8_leastLead_31 : decode cX8_leastLead 31 = .ok (.aload_n 0, 1) := by decide +kernel
theorem dX8_leastLead_32 : decode cX8_leastLead 32 = .ok (.iload_n 3, 1) := by decide +kernel
theorem dX8_leastLead_33 : decode cX8_leastLead 33 = .ok (.iload_n 1, 1) := by decide +kernel
theorem dX8_leastLead_34 : decode cX8_leastLead 34 = .ok (.invokestatic 112, 3) := by decide +kernel
theorem dX8_leastLead_37 : decode cX8_leastLead 37 = .ok (.invokevirtual 115, 3) := by decide +kernel
theorem dX8_leastLead_40 : decode cX8_leastLead 40 = .ok (.ifCond .ne 6, 3) := by decide +kernel
theorem dX8_leastLead_43 : decode cX8_leastLead 43 = .ok (.ldc 118, 2) := by decide +kernel
theorem dX8_leastLead_45 : decode cX8_leastLead 45 = .ok (.ireturn, 1) := by decide +kernel
theorem dX8_leastLead_46 : decode cX8_leastLead 46 = .ok (.aload_n 0, 1) := by decide +kernel
theorem dX8_leastLead_47 : decode cX8_leastLead 47 = .ok (.iload_n 1, 1) := by decide +kernel
theorem dX8_leastLead_48 : decode cX8_leastLead 48 = .ok (.iload_n 2, 1) := by decide +kernel
theorem dX8_leastLead_49 : decode cX8_leastLead 49 = .ok (.iconst 0, 1) := by decide +kernel
theorem dX8_leastLead_50 : decode cX8_leastLead 50 = .ok (.invokevirtual 119, 3) := by decide +kernel
theorem dX8_leastLead_53 : decode cX8_leastLead 53 = .ok (.ireturn, 1) := by decide +kernel
theorem dX8_lead_0 : decode cX8_lead 0 = .ok (.iconst 0, 1) := by decide +kernel
theorem dX8_lead_1 : decode cX8_lead 1 = .ok (.istore 4, 2) := by decide +kernel
theorem dX8_lead_3 : decode cX8_lead 3 = .ok (.iconst 0, 1) := by decide +kernel
theorem dX8_lead_4 : decode cX8_lead 4 = .ok (.istore 5, 2) := by decide +kernel
theorem dX8_lead_6 : decode cX8_lead 6 = .ok (.iload 5, 2) := by decide +kernel
theorem dX8_lead_8 : decode cX8_lead 8 = .ok (.aload_n 0, 1) := by decide +kernel
theorem dX8_lead_9 : decode cX8_lead 9 = .ok (.getfield 32, 3) := by decide +kernel
theorem dX8_lead_12 : decode cX8_lead 12 = .ok (.getfield 77, 3) := by decide +kernel
theorem dX8_lead_15 : decode cX8_lead 15 = .ok (.if_icmp .ge 48, 3) := by decide +kernel
theorem dX8_lead_18 : decode cX8_lead 18 = .ok (.iload_n 3, 1) := by decide +kernel
theorem dX8_lead_19 : decode cX8_lead 19 = .ok (.iload 5, 2) := by decide +kernel
theorem dX8_lead_21 : decode cX8_lead 21 = .ok (.invokestatic 100, 3) := by decide +kernel
theorem dX8_lead_24 : decode cX8_lead 24 = .ok (.ifCond .eq 10, 3) := by decide +kernel
theorem dX8_lead_27 : decode cX8_lead 27 = .ok (.aload_n 0, 1) := by decide +kernel
theorem dX8_lead_28 : decode cX8_lead 28 = .ok (.getfield 19, 3) := by decide +kernel
theorem dX8_lead_31 : decode cX8_lead 31 = .ok (.goto 7, 3) := by decide +kernel
theorem dX8_lead_34 : decode cX8_lead 34 = .ok (.aload_n 0, 1) := by decide +kernel
theorem dX8_lead_35 : decode cX8_lead 35 = .ok (.getfield 15, 3) := by decide +kernel
theorem dX8_lead_38 : decode cX8_lead 38 = .ok (.astore 6, 2) := by decide +kernel
theorem dX8_lead_40 : decode cX8_lead 40 = .ok (.iload 4, 2) := by decide +kernel
theorem dX8_lead_42 : decode cX8_lead 42 = .ok (.aload 6, 2) := by decide +kernel
theorem dX8_lead_44 : decode cX8_lead 44 = .ok (.iload 5, 2) := by decide +kernel
theorem dX8_lead_46 : decode cX8_lead 46 = .ok (.iload_n 1, 1) := by decide +kernel
theorem dX8_lead_47 : decode cX8_lead 47 = .ok (.iload_n 2, 1) := by decide +kernel
theorem dX8_lead_48 : decode cX8_lead 48 = .ok (.invokestatic 106, 3) := by decide +kernel
theorem dX8_lead_51 : decode cX8_lead 51 = .ok (.invokestatic 43, 3) := by decide +kernel
theorem dX8_lead_54 : decode cX8_lead 54 = .ok (.iadd, 1) := by decide +kernel
theorem dX8_lead_55 : decode cX8_lead 55 = .ok (.istore 4, 2) := by decide +kernel
theorem dX8_lead_57 : decode cX8_lead 57 = .ok (.iinc 5 1, 3) := by decide +kernel
theorem dX8_lead_60 : decode cX8_lead 60 = .ok (.goto (-54), 3) := by decide +kernel
theorem dX8_lead_63 : decode cX8_lead 63 = .ok (.iload 4, 2) := by decide +kernel
theorem dX8_lead_65 : decode cX8_lead 65 = .ok (.ireturn, 1) := by decide +kernel
theorem dX8_leadsAll_0 : decode cX8_leadsAll 0 = .ok (.iconst 0, 1) := by decide +kernel
theorem dX8_leadsAll_1 : decode cX8_leadsAll 1 = .ok (.istore 4, 2) := by decide +kernel
theorem dX8_leadsAll_3 : decode cX8_leadsAll 3 = .ok (.iload 4, 2) := by decide +kernel
theorem dX8_leadsAll_5 : decode cX8_leadsAll 5 = .ok (.aload_n 0, 1) := by decide +kernel
theorem dX8_leadsAll_6 : decode cX8_leadsAll 6 = .ok (.getfield 28, 3) := by decide +kernel
theorem dX8_leadsAll_9 : decode cX8_leadsAll 9 = .ok (.getfield 97, 3) := by decide +kernel
theorem dX8_leadsAll_12 : decode cX8_leadsAll 12 = .ok (.if_icmp .ge 57, 3) := by decide +kernel
theorem dX8_leadsAll_15 : decode cX8_leadsAll 15 = .ok (.iload 4, 2) := by decide +kernel
theorem dX8_leadsAll_17 : decode cX8_leadsAll 17 = .ok (.iload_n 1, 1) := by decide +kernel
theorem dX8_leadsAll_18 : decode cX8_leadsAll 18 = .ok (.if_icmp .eq 23, 3) := by decide +kernel
theorem dX8_leadsAll_21 : decode cX8_leadsAll 21 = .ok (.aload_n 0, 1) := by decide +kernel
theorem dX8_leadsAll_22 : decode cX8_leadsAll 22 = .ok (.getfield 28, 3) := by decide +kernel
theorem dX8_leadsAll_25 : decode cX8_leadsAll 25 = .ok (.iload_n 2, 1) := by decide +kernel
theorem dX8_leadsAll_26 : decode cX8_leadsAll 26 = .ok (.invokevirtual 103, 3) := by decide +kernel
theorem dX8_leadsAll_29 : decode cX8_leadsAll 29 = .ok (.iload 4, 2) := by decide +kernel
theorem dX8_leadsAll_31 : decode cX8_leadsAll 31 = .ok (.invokestatic 100, 3) := by decide +kernel
theorem dX8_leadsAll_34 : decode cX8_leadsAll 34 = .ok (.ifCond .eq 7, 3) := by decide +kernel
theorem dX8_leadsAll_37 : decode cX8_leadsAll 37 = .ok (.iconst 1, 1) := by decide +kernel
theorem dX8_leadsAll_38 : decode cX8_leadsAll 38 = .ok (.goto 4, 3) := by decide +kernel
theorem dX8_leadsAll_41 : decode cX8_leadsAll 41 = .ok (.iconst 0, 1) := by decide +kernel
theorem dX8_leadsAll_42 : decode cX8_leadsAll 42 = .ok (.istore 5, 2) := by decide +kernel
theorem dX8_leadsAll_44 : decode cX8_leadsAll 44 = .ok (.iload 5, 2) := by decide +kernel
theorem dX8_leadsAll_46 : decode cX8_leadsAll 46 = .ok (.ifCond .eq 17, 3) := by decide +kernel
theorem dX8_leadsAll_49 : decode cX8_leadsAll 49 = .ok (.aload_n 0, 1) := by decide +kernel
theorem dX8_leadsAll_50 : decode cX8_leadsAll 50 = .ok (.iload_n 1, 1) := by decide +kernel
theorem dX8_leadsAll_51 : decode cX8_leadsAll 51 = .ok (.iload 4, 2) := by decide +kernel
theorem dX8_leadsAll_53 : decode cX8_leadsAll 53 = .ok (.iload_n 3, 1) := by decide +kernel
theorem dX8_leadsAll_54 : decode cX8_leadsAll 54 = .ok (.invokevirtual 119, 3) := by decide +kernel
theorem dX8_leadsAll_57 : decode cX8_leadsAll 57 = .ok (.iconst 1, 1) := by decide +kernel
theorem dX8_leadsAll_58 : decode cX8_leadsAll 58 = .ok (.if_icmp .ge 5, 3) := by decide +kernel
theorem dX8_leadsAll_61 : decode cX8_leadsAll 61 = .ok (.iconst 0, 1) := by decide +kernel
theorem dX8_leadsAll_62 : decode cX8_leadsAll 62 = .ok (.ireturn, 1) := by decide +kernel
theorem dX8_leadsAll_63 : decode cX8_leadsAll 63 = .ok (.iinc 4 1, 3) := by decide +kernel
theorem dX8_leadsAll_66 : decode cX8_leadsAll 66 = .ok (.goto (-63), 3) := by decide +kernel
theorem dX8_leadsAll_69 : decode cX8_leadsAll 69 = .ok (.iconst 1, 1) := by decide +kernel
theorem dX8_leadsAll_70 : decode cX8_leadsAll 70 = .ok (.ireturn, 1) := by decide +kernel
theorem dX8_winner_0 : decode cX8_winner 0 = .ok (.aload_n 0, 1) := by decide +kernel
theorem dX8_winner_1 : decode cX8_winner 1 = .ok (.iload_n 1, 1) := by decide +kernel
theorem dX8_winner_2 : decode cX8_winner 2 = .ok (.aload_n 0, 1) := by decide +kernel
theorem dX8_winner_3 : decode cX8_winner 3 = .ok (.getfield 28, 3) := by decide +kernel
theorem dX8_winner_6 : decode cX8_winner 6 = .ok (.iload_n 1, 1) := by decide +kernel
theorem dX8_winner_7 : decode cX8_winner 7 = .ok (.invokevirtual 103, 3) := by decide +kernel
theorem dX8_winner_10 : decode cX8_winner 10 = .ok (.invokevirtual 115, 3) := by decide +kernel
theorem dX8_winner_13 : decode cX8_winner 13 = .ok (.ifCond .ne 5, 3) := by decide +kernel
theorem dX8_winner_16 : decode cX8_winner 16 = .ok (.iconst (-1), 1) := by decide +kernel
theorem dX8_winner_17 : decode cX8_winner 17 = .ok (.ireturn, 1) := by decide +kernel
theorem dX8_winner_18 : decode cX8_winner 18 = .ok (.iconst 0, 1) := by decide +kernel
theorem dX8_winner_19 : decode cX8_winner 19 = .ok (.istore_n 2, 1) := by decide +kernel
theorem dX8_winner_20 : decode cX8_winner 20 = .ok (.iload_n 2, 1) := by decide +kernel
theorem dX8_winner_21 : decode cX8_winner 21 = .ok (.aload_n 0, 1) := by decide +kernel
theorem dX8_winner_22 : decode cX8_winner 22 = .ok (.getfield 28, 3) := by decide +kernel
theorem dX8_winner_25 : decode cX8_winner 25 = .ok (.getfield 97, 3) := by decide +kernel
theorem dX8_winner_28 : decode cX8_winner 28 = .ok (.if_icmp .ge 36, 3) := by decide +kernel
theorem dX8_winner_31 : decode cX8_winner 31 = .ok (.aload_n 0, 1) := by decide +kernel
theorem dX8_winner_32 : decode cX8_winner 32 = .ok (.getfield 28, 3) := by decide +kernel
theorem dX8_winner_35 : decode cX8_winner 35 = .ok (.iload_n 1, 1) := by decide +kernel
theorem dX8_winner_36 : decode cX8_winner 36 = .ok (.invokevirtual 103, 3) := by decide +kernel
theorem dX8_winner_39 : decode cX8_winner 39 = .ok (.iload_n 2, 1) := by decide +kernel
theorem dX8_winner_40 : decode cX8_winner 40 = .ok (.invokestatic 100, 3) := by decide +kernel
theorem dX8_winner_43 : decode cX8_winner 43 = .ok (.ifCond .eq 15, 3) := by decide +kernel
theorem dX8_winner_46 : decode cX8_winner 46 = .ok (.aload_n 0, 1) := by decide +kernel
theorem dX8_winner_47 : decode cX8_winner 47 = .ok (.iload_n 2, 1) := by decide +kernel
theorem dX8_winner_48 : decode cX8_winner 48 = .ok (.iload_n 1, 1) := by decide +kernel
theorem dX8_winner_49 : decode cX8_winner 49 = .ok (.iconst 0, 1) := by decide +kernel
theorem dX8_winner_50 : decode cX8_winner 50 = .ok (.invokevirtual 122, 3) := by decide +kernel
theorem dX8_winner_53 : decode cX8_winner 53 = .ok (.ifCond .eq 5, 3) := by decide +kernel
theorem dX8_winner_56 : decode cX8_winner 56 = .ok (.iload_n 2, 1) := by decide +kernel
theorem dX8_winner_57 : decode cX8_winner 57 = .ok (.ireturn, 1) := by decide +kernel
theorem dX8_winner_58 : decode cX8_winner 58 = .ok (.iinc 2 1, 3) := by decide +kernel
theorem dX8_winner_61 : decode cX8_winner 61 = .ok (.goto (-41), 3) := by decide +kernel
theorem dX8_winner_64 : decode cX8_winner 64 = .ok (.iconst (-1), 1) := by decide +kernel
theorem dX8_winner_65 : decode cX8_winner 65 = .ok (.ireturn, 1) := by decide +kernel
theorem dX8_cheapestOpening_0 : decode cX8_cheapestOpening 0 = .ok (.aload_n 0, 1) := by decide +kernel
theorem dX8_cheapestOpening_1 : decode cX8_cheapestOpening 1 = .ok (.getfield 28, 3) := by decide +kernel
theorem dX8_cheapestOpening_4 : decode cX8_cheapestOpening 4 = .ok (.iload_n 1, 1) := by decide +kernel
theorem dX8_cheapestOpening_5 : decode cX8_cheapestOpening 5 = .ok (.invokevirtual 109, 3) := by decide +kernel
theorem dX8_cheapestOpening_8 : decode cX8_cheapestOpening 8 = .ok (.istore_n 2, 1) := by decide +kernel
theorem dX8_cheapestOpening_9 : decode cX8_cheapestOpening 9 = .ok (.aload_n 0, 1) := by decide +kernel
theorem dX8_cheapestOpening_10 : decode cX8_cheapestOpening 10 = .ok (.iload_n 2, 1) := by decide +kernel
theorem dX8_cheapestOpening_11 : decode cX8_cheapestOpening 11 = .ok (.iload_n 1, 1) := by decide +kernel
theorem dX8_cheapestOpening_12 : decode cX8_cheapestOpening 12 = .ok (.invokestatic 112, 3) := by decide +kernel
theorem dX8_cheapestOpening_15 : decode cX8_cheapestOpening 15 = .ok (.invokevirtual 115, 3) := by decide +kernel
theorem dX8_cheapestOpening_18 : decode cX8_cheapestOpening 18 = .ok (.ifCond .ne 5, 3) := by decide +kernel
theorem dX8_cheapestOpening_21 : decode cX8_cheapestOpening 21 = .ok (.iconst (-1), 1) := by decide +kernel
theorem dX8_cheapestOpening_22 : decode cX8_cheapestOpening 22 = .ok (.ireturn, 1) := by decide +kernel
theorem dX8_cheapestOpening_23 : decode cX8_cheapestOpening 23 = .ok (.aload_n 0, 1) := by decide +kernel
theorem dX8_cheapestOpening_24 : decode cX8_cheapestOpening 24 = .ok (.iload_n 2, 1) := by decide +kernel
theorem dX8_cheapestOpening_25 : decode cX8_cheapestOpening 25 = .ok (.iload_n 1, 1) := by decide +kernel
theorem dX8_cheapestOpening_26 : decode cX8_cheapestOpening 26 = .ok (.invokestatic 112, 3) := by decide +kernel
theorem dX8_cheapestOpening_29 : decode cX8_cheapestOpening 29 = .ok (.invokevirtual 126, 3) := by decide +kernel
theorem dX8_cheapestOpening_32 : decode cX8_cheapestOpening 32 = .ok (.iconst (-1), 1) := by decide +kernel
theorem dX8_cheapestOpening_33 : decode cX8_cheapestOpening 33 = .ok (.istore_n 3, 1) := by decide +kernel
theorem dX8_cheapestOpening_34 : decode cX8_cheapestOpening 34 = .ok (.iconst 0, 1) := by decide +kernel
theorem dX8_cheapestOpening_35 : decode cX8_cheapestOpening 35 = .ok (.istore 4, 2) := by decide +kernel
theorem dX8_cheapestOpening_37 : decode cX8_cheapestOpening 37 = .ok (.iload 4, 2) := by decide +kernel
theorem dX8_cheapestOpening_39 : decode cX8_cheapestOpening 39 = .ok (.aload_n 0, 1) := by decide +kernel
theorem dX8_cheapestOpening_40 : decode cX8_cheapestOpening 40 = .ok (.getfield 32, 3) := by decide +kernel
theorem dX8_cheapestOpening_43 : decode cX8_cheapestOpening 43 = .ok (.getfield 77, 3) := by decide +kernel
theorem dX8_cheapestOpening_46 : decode cX8_cheapestOpening 46 = .ok (.invokestatic 130, 3) := by decide +kernel
theorem dX8_cheapestOpening_49 : decode cX8_cheapestOpening 49 = .ok (.if_icmp .gt 47, 3) := by decide +kernel
theorem dX8_cheapestOpening_52 : decode cX8_cheapestOpening 52 = .ok (.aload_n 0, 1) := by decide +kernel
theorem dX8_cheapestOpening_53 : decode cX8_cheapestOpening 53 = .ok (.iload 4, 2) := by decide +kernel
theorem dX8_cheapestOpening_55 : decode cX8_cheapestOpening 55 = .ok (.invokevirtual 133, 3) := by decide +kernel
theorem dX8_cheapestOpening_58 : decode cX8_cheapestOpening 58 = .ok (.ifCond .eq 32, 3) := by decide +kernel
theorem dX8_cheapestOpening_61 : decode cX8_cheapestOpening 61 = .ok (.iload_n 3, 1) := by decide +kernel
theorem dX8_cheapestOpening_62 : decode cX8_cheapestOpening 62 = .ok (.iconst (-1), 1) := by decide +kernel
theorem dX8_cheapestOpening_63 : decode cX8_cheapestOpening 63 = .ok (.if_icmp .eq 13, 3) := by decide +kernel
theorem dX8_cheapestOpening_66 : decode cX8_cheapestOpening 66 = .ok (.aload_n 0, 1) := by decide +kernel
theorem dX8_cheapestOpening_67 : decode cX8_cheapestOpening 67 = .ok (.iload 4, 2) := by decide +kernel
theorem dX8_cheapestOpening_69 : decode cX8_cheapestOpening 69 = .ok (.iload_n 3, 1) := by decide +kernel
theorem dX8_cheapestOpening_70 : decode cX8_cheapestOpening 70 = .ok (.invokevirtual 137, 3) := by decide +kernel
theorem dX8_cheapestOpening_73 : decode cX8_cheapestOpening 73 = .ok (.ifCond .eq 17, 3) := by decide +kernel
theorem dX8_cheapestOpening_76 : decode cX8_cheapestOpening 76 = .ok (.aload_n 0, 1) := by decide +kernel
theorem dX8_cheapestOpening_77 : decode cX8_cheapestOpening 77 = .ok (.iload_n 1, 1) := by decide +kernel
theorem dX8_cheapestOpening_78 : decode cX8_cheapestOpening 78 = .ok (.iload_n 2, 1) := by decide +kernel
theorem dX8_cheapestOpening_79 : decode cX8_cheapestOpening 79 = .ok (.iload 4, 2) := by decide +kernel
theorem dX8_cheapestOpening_81 : decode cX8_cheapestOpening 81 = .ok (.invokevirtual 122, 3) := by decide +kernel
theorem dX8_cheapestOpening_84 : decode cX8_cheapestOpening 84 = .ok (.ifCond .eq 6, 3) := by decide +kernel
theorem dX8_cheapestOpening_87 : decode cX8_cheapestOpening 87 = .ok (.iload 4, 2) := by decide +kernel
theorem dX8_cheapestOpening_89 : decode cX8_cheapestOpening 89 = .ok (.istore_n 3, 1) := by decide +kernel
theorem dX8_cheapestOpening_90 : decode cX8_cheapestOpening 90 = .ok (.iinc 4 1, 3) := by decide +kernel
theorem dX8_cheapestOpening_93 : decode cX8_cheapestOpening 93 = .ok (.goto (-56), 3) := by decide +kernel
theorem dX8_cheapestOpening_96 : decode cX8_cheapestOpening 96 = .ok (.iload_n 3, 1) := by decide +kernel
theorem dX8_cheapestOpening_97 : decode cX8_cheapestOpening 97 = .ok (.ireturn, 1) := by decide +kernel
theorem dX8_canOpen_0 : decode cX8_canOpen 0 = .ok (.iconst 0, 1) := by decide +kernel
theorem dX8_canOpen_1 : decode cX8_canOpen 1 = .ok (.istore_n 2, 1) := by decide +kernel
theorem dX8_canOpen_2 : decode cX8_canOpen 2 = .ok (.iload_n 2, 1) := by decide +kernel
theorem dX8_canOpen_3 : decode cX8_canOpen 3 = .ok (.aload_n 0, 1) := by decide +kernel
theorem dX8_canOpen_4 : decode cX8_canOpen 4 = .ok (.getfield 32, 3) := by decide +kernel
theorem dX8_canOpen_7 : decode cX8_canOpen 7 = .ok (.getfield 77, 3) := by decide +kernel
theorem dX8_canOpen_10 : decode cX8_canOpen 10 = .ok (.if_icmp .ge 34, 3) := by decide +kernel
theorem dX8_canOpen_13 : decode cX8_canOpen 13 = .ok (.iload_n 1, 1) := by decide +kernel
theorem dX8_canOpen_14 : decode cX8_canOpen 14 = .ok (.iload_n 2, 1) := by decide +kernel
theorem dX8_canOpen_15 : decode cX8_canOpen 15 = .ok (.invokestatic 100, 3) := by decide +kernel
theorem dX8_canOpen_18 : decode cX8_canOpen 18 = .ok (.ifCond .eq 20, 3) := by decide +kernel
theorem dX8_canOpen_21 : decode cX8_canOpen 21 = .ok (.aload_n 0, 1) := by decide +kernel
theorem dX8_canOpen_22 : decode cX8_canOpen 22 = .ok (.getfield 32, 3) := by decide +kernel
theorem dX8_canOpen_25 : decode cX8_canOpen 25 = .ok (.getfield 40, 3) := by decide +kernel
theorem dX8_canOpen_28 : decode cX8_canOpen 28 = .ok (.iload_n 2, 1) := by decide +kernel
theorem dX8_canOpen_29 : decode cX8_canOpen 29 = .ok (.invokestatic 43, 3) := by decide +kernel
theorem dX8_canOpen_32 : decode cX8_canOpen 32 = .ok (.iconst (-1), 1) := by decide +kernel
theorem dX8_canOpen_33 : decode cX8_canOpen 33 = .ok (.if_icmp .eq 5, 3) := by decide +kernel
theorem dX8_canOpen_36 : decode cX8_canOpen 36 = .ok (.iconst 0, 1) := by decide +kernel
theorem dX8_canOpen_37 : decode cX8_canOpen 37 = .ok (.ireturn, 1) := by decide +kernel
theorem dX8_canOpen_38 : decode cX8_canOpen 38 = .ok (.iinc 2 1, 3) := by decide +kernel
theorem dX8_canOpen_41 : decode cX8_canOpen 41 = .ok (.goto (-39), 3) := by decide +kernel
theorem dX8_canOpen_44 : decode cX8_canOpen 44 = .ok (.iconst 1, 1) := by decide +kernel
theorem dX8_canOpen_45 : decode cX8_canOpen 45 = .ok (.ireturn, 1) := by decide +kernel
theorem dX8_isCheaper_0 : decode cX8_isCheaper 0 = .ok (.aload_n 0, 1) := by decide +kernel
theorem dX8_isCheaper_1 : decode cX8_isCheaper 1 = .ok (.iload_n 2, 1) := by decide +kernel
theorem dX8_isCheaper_2 : decode cX8_isCheaper 2 = .ok (.invokevirtual 140, 3) := by decide +kernel
theorem dX8_isCheaper_5 : decode cX8_isCheaper 5 = .ok (.aload_n 0, 1) := by decide +kernel
theorem dX8_isCheaper_6 : decode cX8_isCheaper 6 = .ok (.iload_n 1, 1) := by decide +kernel
theorem dX8_isCheaper_7 : decode cX8_isCheaper 7 = .ok (.invokevirtual 140, 3) := by decide +kernel
theorem dX8_isCheaper_10 : decode cX8_isCheaper 10 = .ok (.isub, 1) := by decide +kernel
theorem dX8_isCheaper_11 : decode cX8_isCheaper 11 = .ok (.istore_n 3, 1) := by decide +kernel
theorem dX8_isCheaper_12 : decode cX8_isCheaper 12 = .ok (.iload_n 3, 1) := by decide +kernel
theorem dX8_isCheaper_13 : decode cX8_isCheaper 13 = .ok (.ifCond .gt 15, 3) := by decide +kernel
theorem dX8_isCheaper_16 : decode cX8_isCheaper 16 = .ok (.iload_n 3, 1) := by decide +kernel
theorem dX8_isCheaper_17 : decode cX8_isCheaper 17 = .ok (.ifCond .ne 15, 3) := by decide +kernel
theorem dX8_isCheaper_20 : decode cX8_isCheaper 20 = .ok (.iload_n 1, 1) := by decide +kernel
theorem dX8_isCheaper_21 : decode cX8_isCheaper 21 = .ok (.iload_n 2, 1) := by decide +kernel
theorem dX8_isCheaper_22 : decode cX8_isCheaper 22 = .ok (.invokestatic 143, 3) := by decide +kernel
theorem dX8_isCheaper_25 : decode cX8_isCheaper 25 = .ok (.ifCond .eq 7, 3) := by decide +kernel
theorem dX8_isCheaper_28 : decode cX8_isCheaper 28 = .ok (.iconst 1, 1) := by decide +kernel
theorem dX8_isCheaper_29 : decode cX8_isCheaper 29 = .ok (.goto 4, 3) := by decide +kernel
theorem dX8_isCheaper_32 : decode cX8_isCheaper 32 = .ok (.iconst 0, 1) := by decide +kernel
theorem dX8_isCheaper_33 : decode cX8_isCheaper 33 = .ok (.ireturn, 1) := by decide +kernel
theorem dX8_costOf_0 : decode cX8_costOf 0 = .ok (.iconst 0, 1) := by decide +kernel
theorem dX8_costOf_1 : decode cX8_costOf 1 = .ok (.istore_n 2, 1) := by decide +kernel
theorem dX8_costOf_2 : decode cX8_costOf 2 = .ok (.iconst 0, 1) := by decide +kernel
theorem dX8_costOf_3 : decode cX8_costOf 3 = .ok (.istore_n 3, 1) := by decide +kernel
theorem dX8_costOf_4 : decode cX8_costOf 4 = .ok (.iload_n 3, 1) := by decide +kernel
theorem dX8_costOf_5 : decode cX8_costOf 5 = .ok (.aload_n 0, 1) := by decide +kernel
theorem dX8_costOf_6 : decode cX8_costOf 6 = .ok (.getfield 32, 3) := by decide +kernel
theorem dX8_costOf_9 : decode cX8_costOf 9 = .ok (.getfield 77, 3) := by decide +kernel
theorem dX8_costOf_12 : decode cX8_costOf 12 = .ok (.if_icmp .ge 31, 3) := by decide +kernel
theorem dX8_costOf_15 : decode cX8_costOf 15 = .ok (.iload_n 1, 1) := by decide +kernel
theorem dX8_costOf_16 : decode cX8_costOf 16 = .ok (.iload_n 3, 1) := by decide +kernel
theorem dX8_costOf_17 : decode cX8_costOf 17 = .ok (.invokestatic 100, 3) := by decide +kernel
theorem dX8_costOf_20 : decode cX8_costOf 20 = .ok (.ifCond .eq 17, 3) := by decide +kernel
theorem dX8_costOf_23 : decode cX8_costOf 23 = .ok (.iload_n 2, 1) := by decide +kernel
theorem dX8_costOf_24 : decode cX8_costOf 24 = .ok (.aload_n 0, 1) := by decide +kernel
theorem dX8_costOf_25 : decode cX8_costOf 25 = .ok (.getfield 32, 3) := by decide +kernel
theorem dX8_costOf_28 : decode cX8_costOf 28 = .ok (.getfield 146, 3) := by decide +kernel
theorem dX8_costOf_31 : decode cX8_costOf 31 = .ok (.iload_n 3, 1) := by decide +kernel
theorem dX8_costOf_32 : decode cX8_costOf 32 = .ok (.invokestatic 43, 3) := by decide +kernel
theorem dX8_costOf_35 : decode cX8_costOf 35 = .ok (.iadd, 1) := by decide +kernel
theorem dX8_costOf_36 : decode cX8_costOf 36 = .ok (.istore_n 2, 1) := by decide +kernel
theorem dX8_costOf_37 : decode cX8_costOf 37 = .ok (.iinc 3 1, 3) := by decide +kernel
theorem dX8_costOf_40 : decode cX8_costOf 40 = .ok (.goto (-36), 3) := by decide +kernel
theorem dX8_costOf_43 : decode cX8_costOf 43 = .ok (.iload_n 2, 1) := by decide +kernel
theorem dX8_costOf_44 : decode cX8_costOf 44 = .ok (.ireturn, 1) := by decide +kernel
theorem dX8_setAbsent_0 : decode cX8_setAbsent 0 = .ok (.iload_n 2, 1) := by decide +kernel
theorem dX8_setAbsent_1 : decode cX8_setAbsent 1 = .ok (.iconst 0, 1) := by decide +kernel
theorem dX8_setAbsent_2 : decode cX8_setAbsent 2 = .ok (.sipush 9999, 3) := by decide +kernel
theorem dX8_setAbsent_5 : decode cX8_setAbsent 5 = .ok (.invokestatic 149, 3) := by decide +kernel
theorem dX8_setAbsent_8 : decode cX8_setAbsent 8 = .ok (.ifCond .eq 18, 3) := by decide +kernel
theorem dX8_setAbsent_11 : decode cX8_setAbsent 11 = .ok (.iload_n 3, 1) := by decide +kernel
theorem dX8_setAbsent_12 : decode cX8_setAbsent 12 = .ok (.iload_n 2, 1) := by decide +kernel
theorem dX8_setAbsent_13 : decode cX8_setAbsent 13 = .ok (.sipush 9999, 3) := by decide +kernel
theorem dX8_setAbsent_16 : decode cX8_setAbsent 16 = .ok (.invokestatic 149, 3) := by decide +kernel
theorem dX8_setAbsent_19 : decode cX8_setAbsent 19 = .ok (.ifCond .eq 7, 3) := by decide +kernel
theorem dX8_setAbsent_22 : decode cX8_setAbsent 22 = .ok (.iconst 1, 1) := by decide +kernel
theorem dX8_setAbsent_23 : decode cX8_setAbsent 23 = .ok (.goto 4, 3) := by decide +kernel
theorem dX8_setAbsent_26 : decode cX8_setAbsent 26 = .ok (.iconst 0, 1) := by decide +kernel
theorem dX8_setAbsent_27 : decode cX8_setAbsent 27 = .ok (.istore 4, 2) := by decide +kernel
theorem dX8_setAbsent_29 : decode cX8_setAbsent 29 = .ok (.aload_n 0, 1) := by decide +kernel
theorem dX8_setAbsent_30 : decode cX8_setAbsent 30 = .ok (.getfield 28, 3) := by decide +kernel
theorem dX8_setAbsent_33 : decode cX8_setAbsent 33 = .ok (.iload_n 1, 1) := by decide +kernel
theorem dX8_setAbsent_34 : decode cX8_setAbsent 34 = .ok (.invokevirtual 152, 3) := by decide +kernel
theorem dX8_setAbsent_37 : decode cX8_setAbsent 37 = .ok (.ifCond .eq 8, 3) := by decide +kernel
theorem dX8_setAbsent_40 : decode cX8_setAbsent 40 = .ok (.iload 4, 2) := by decide +kernel
theorem dX8_setAbsent_42 : decode cX8_setAbsent 42 = .ok (.ifCond .ne 5, 3) := by decide +kernel
theorem dX8_setAbsent_45 : decode cX8_setAbsent 45 = .ok (.iconst 0, 1) := by decide +kernel
theorem dX8_setAbsent_46 : decode cX8_setAbsent 46 = .ok (.ireturn, 1) := by decide +kernel
theorem dX8_setAbsent_47 : decode cX8_setAbsent 47 = .ok (.aload_n 0, 1) := by decide +kernel
theorem dX8_setAbsent_48 : decode cX8_setAbsent 48 = .ok (.getfield 22, 3) := by decide +kernel
theorem dX8_setAbsent_51 : decode cX8_setAbsent 51 = .ok (.iload_n 1, 1) := by decide +kernel
theorem dX8_setAbsent_52 : decode cX8_setAbsent 52 = .ok (.iload_n 2, 1) := by decide +kernel
theorem dX8_setAbsent_53 : decode cX8_setAbsent 53 = .ok (.invokestatic 86, 3) := by decide +kernel
theorem dX8_setAbsent_56 : decode cX8_setAbsent 56 = .ok (.aload_n 0, 1) := by decide +kernel
theorem dX8_setAbsent_57 : decode cX8_setAbsent 57 = .ok (.getfield 25, 3) := by decide +kernel
theorem dX8_setAbsent_60 : decode cX8_setAbsent 60 = .ok (.iload_n 1, 1) := by decide +kernel
theorem dX8_setAbsent_61 : decode cX8_setAbsent 61 = .ok (.iload_n 3, 1) := by decide +kernel
theorem dX8_setAbsent_62 : decode cX8_setAbsent 62 = .ok (.invokestatic 86, 3) := by decide +kernel
theorem dX8_setAbsent_65 : decode cX8_setAbsent 65 = .ok (.iconst 1, 1) := by decide +kernel
theorem dX8_setAbsent_66 : decode cX8_setAbsent 66 = .ok (.ireturn, 1) := by decide +kernel
theorem dX8_leastAbsent_0 : decode cX8_leastAbsent 0 = .ok (.aload_n 0, 1) := by decide +kernel
theorem dX8_leastAbsent_1 : decode cX8_leastAbsent 1 = .ok (.getfield 22, 3) := by decide +kernel
theorem dX8_leastAbsent_4 : decode cX8_leastAbsent 4 = .ok (.iload_n 1, 1) := by decide +kernel
theorem dX8_leastAbsent_5 : decode cX8_leastAbsent 5 = .ok (.invokestatic 43, 3) := by decide +kernel
theorem dX8_leastAbsent_8 : decode cX8_leastAbsent 8 = .ok (.ireturn, 1) := by decide +kernel
theorem dX8_mostAbsent_0 : decode cX8_mostAbsent 0 = .ok (.aload_n 0, 1) := by decide +kernel
theorem dX8_mostAbsent_1 : decode cX8_mostAbsent 1 = .ok (.getfield 25, 3) := by decide +kernel
theorem dX8_mostAbsent_4 : decode cX8_mostAbsent 4 = .ok (.iload_n 1, 1) := by decide +kernel
theorem dX8_mostAbsent_5 : decode cX8_mostAbsent 5 = .ok (.invokestatic 43, 3) := by decide +kernel
theorem dX8_mostAbsent_8 : decode cX8_mostAbsent 8 = .ok (.ireturn, 1) := by decide +kernel
theorem dX9_init_0 : decode cX9_init 0 = .ok (.aload_n 0, 1) := by decide +kernel
theorem dX9_init_1 : decode cX9_init 1 = .ok (.invokespecial 1, 3) := by decide +kernel
theorem dX9_init_4 : decode cX9_init 4 = .ok (.aload_n 0, 1) := by decide +kernel
theorem dX9_init_5 : decode cX9_init 5 = .ok (.bipush 120, 2) := by decide +kernel
theorem dX9_init_7 : decode cX9_init 7 = .ok (.newarray .int, 2) := by decide +kernel
theorem dX9_init_9 : decode cX9_init 9 = .ok (.putfield 9, 3) := by decide +kernel
theorem dX9_init_12 : decode cX9_init 12 = .ok (.return_, 1) := by decide +kernel
theorem dX9_bytesIn_0 : decode cX9_bytesIn 0 = .ok (.iconst 0, 1) := by decide +kernel
theorem dX9_bytesIn_1 : decode cX9_bytesIn 1 = .ok (.istore_n 1, 1) := by decide +kernel
theorem dX9_bytesIn_2 : decode cX9_bytesIn 2 = .ok (.bipush 24, 2) := by decide +kernel
theorem dX9_bytesIn_4 : decode cX9_bytesIn 4 = .ok (.istore_n 2, 1) := by decide +kernel
theorem dX9_bytesIn_5 : decode cX9_bytesIn 5 = .ok (.iload_n 2, 1) := by decide +kernel
theorem dX9_bytesIn_6 : decode cX9_bytesIn 6 = .ok (.ifCond .lt 22, 3) := by decide +kernel
theorem dX9_bytesIn_9 : decode cX9_bytesIn 9 = .ok (.iload_n 0, 1) := by decide +kernel
theorem dX9_bytesIn_10 : decode cX9_bytesIn 10 = .ok (.iload_n 2, 1) := by decide +kernel
theorem dX9_bytesIn_11 : decode cX9_bytesIn 11 = .ok (.iushr, 1) := by decide +kernel
theorem dX9_bytesIn_12 : decode cX9_bytesIn 12 = .ok (.sipush 255, 3) := by decide +kernel
theorem dX9_bytesIn_15 : decode cX9_bytesIn 15 = .ok (.iand, 1) := by decide +kernel
theorem dX9_bytesIn_16 : decode cX9_bytesIn 16 = .ok (.ifCond .eq 6, 3) := by decide +kernel
theorem dX9_bytesIn_19 : decode cX9_bytesIn 19 = .ok (.iinc 1 1, 3) := by decide +kernel
theorem dX9_bytesIn_22 : decode cX9_bytesIn 22 = .ok (.iinc 2 (-8), 3) := by decide +kernel
theorem dX9_bytesIn_25 : decode cX9_bytesIn 25 = .ok (.goto (-20), 3) := by decide +kernel
theorem dX9_bytesIn_28 : decode cX9_bytesIn 28 = .ok (.iload_n 1, 1) := by decide +kernel
theorem dX9_bytesIn_29 : decode cX9_bytesIn 29 = .ok (.ireturn, 1) := by decide +kernel
theorem dX9_append_0 : decode cX9_append 0 = .ok (.bipush 24, 2) := by decide +kernel
theorem dX9_append_2 : decode cX9_append 2 = .ok (.istore_n 2, 1) := by decide +kernel
theorem dX9_append_3 : decode cX9_append 3 = .ok (.iload_n 2, 1) := by decide +kernel
theorem dX9_append_4 : decode cX9_append 4 = .ok (.ifCond .lt 52, 3) := by decide +kernel
theorem dX9_append_7 : decode cX9_append 7 = .ok (.iload_n 1, 1) := by decide +kernel
theorem dX9_append_8 : decode cX9_append 8 = .ok (.iload_n 2, 1) := by decide +kernel
theorem dX9_append_9 : decode cX9_append 9 = .ok (.iushr, 1) := by decide +kernel
theorem dX9_append_10 : decode cX9_append 10 = .ok (.sipush 255, 3) := by decide +kernel
theorem dX9_append_13 : decode cX9_append 13 = .ok (.iand, 1) := by decide +kernel
theorem dX9_append_14 : decode cX9_append 14 = .ok (.istore_n 3, 1) := by decide +kernel
theorem dX9_append_15 : decode cX9_append 15 = .ok (.iload_n 3, 1) := by decide +kernel
theorem dX9_append_16 : decode cX9_append 16 = .ok (.ifCond .eq 34, 3) := by decide +kernel
theorem dX9_append_19 : decode cX9_append 19 = .ok (.aload_n 0, 1) := by decide +kernel
theorem dX9_append_20 : decode cX9_append 20 = .ok (.getfield 13, 3) := by decide +kernel
theorem dX9_append_23 : decode cX9_append 23 = .ok (.bipush 120, 2) := by decide +kernel
theorem dX9_append_25 : decode cX9_append 25 = .ok (.if_icmp .ge 25, 3) := by decide +kernel
theorem dX9_append_28 : decode cX9_append 28 = .ok (.aload_n 0, 1) := by decide +kernel
theorem dX9_append_29 : decode cX9_append 29 = .ok (.getfield 9, 3) := by decide +kernel
theorem dX9_append_32 : decode cX9_append 32 = .ok (.aload_n 0, 1) := by decide +kernel
theorem dX9_append_33 : decode cX9_append 33 = .ok (.getfield 13, 3) := by decide +kernel
theorem dX9_append_36 : decode cX9_append 36 = .ok (.iload_n 3, 1) := by decide +kernel
theorem dX9_append_37 : decode cX9_append 37 = .ok (.invokestatic 17, 3) := by decide +kernel
theorem dX9_append_40 : decode cX9_append 40 = .ok (.aload_n 0, 1) := by decide +kernel
theorem dX9_append_41 : decode cX9_append 41 = .ok (.dup, 1) := by decide +kernel
theorem dX9_append_42 : decode cX9_append 42 = .ok (.getfield 13, 3) := by decide +kernel
theorem dX9_append_45 : decode cX9_append 45 = .ok (.iconst 1, 1) := by decide +kernel
theorem dX9_append_46 : decode cX9_append 46 = .ok (.iadd, 1) := by decide +kernel
theorem dX9_append_47 : decode cX9_append 47 = .ok (.putfield 13, 3) := by decide +kernel
theorem dX9_append_50 : decode cX9_append 50 = .ok (.iinc 2 (-8), 3) := by decide +kernel
theorem dX9_append_53 : decode cX9_append 53 = .ok (.goto (-50), 3) := by decide +kernel
theorem dX9_append_56 : decode cX9_append 56 = .ok (.return_, 1) := by decide +kernel
theorem dX9_isWord_0 : decode cX9_isWord 0 = .ok (.aload_n 0, 1) := by decide +kernel
theorem dX9_isWord_1 : decode cX9_isWord 1 = .ok (.getfield 13, 3) := by decide +kernel
theorem dX9_isWord_4 : decode cX9_isWord 4 = .ok (.iconst 1, 1) := by decide +kernel
theorem dX9_isWord_5 : decode cX9_isWord 5 = .ok (.bipush 8, 2) := by decide +kernel
theorem dX9_isWord_7 : decode cX9_isWord 7 = .ok (.invokestatic 25, 3) := by decide +kernel
theorem dX9_isWord_10 : decode cX9_isWord 10 = .ok (.ifCond .ne 5, 3) := by decide +kernel
theorem dX9_isWord_13 : decode cX9_isWord 13 = .ok (.iconst 0, 1) := by decide +kernel
theorem dX9_isWord_14 : decode cX9_isWord 14 = .ok (.ireturn, 1) := by decide +kernel
theorem dX9_isWord_15 : decode cX9_isWord 15 = .ok (.iconst 0, 1) := by decide +kernel
theorem dX9_isWord_16 : decode cX9_isWord 16 = .ok (.istore_n 2, 1) := by decide +kernel
theorem dX9_isWord_17 : decode cX9_isWord 17 = .ok (.iload_n 2, 1) := by decide +kernel
theorem dX9_isWord_18 : decode cX9_isWord 18 = .ok (.aload_n 0, 1) := by decide +kernel
theorem dX9_isWord_19 : decode cX9_isWord 19 = .ok (.getfield 13, 3) := by decide +kernel
theorem dX9_isWord_22 : decode cX9_isWord 22 = .ok (.if_icmp .ge 53, 3) := by decide +kernel
theorem dX9_isWord_25 : decode cX9_isWord 25 = .ok (.aload_n 0, 1) := by decide +kernel
theorem dX9_isWord_26 : decode cX9_isWord 26 = .ok (.getfield 9, 3) := by decide +kernel
theorem dX9_isWord_29 : decode cX9_isWord 29 = .ok (.iload_n 2, 1) := by decide +kernel
theorem dX9_isWord_30 : decode cX9_isWord 30 = .ok (.invokestatic 29, 3) := by decide +kernel
theorem dX9_isWord_33 : decode cX9_isWord 33 = .ok (.istore_n 3, 1) := by decide +kernel
theorem dX9_isWord_34 : decode cX9_isWord 34 = .ok (.iload_n 1, 1) := by decide +kernel
theorem dX9_isWord_35 : decode cX9_isWord 35 = .ok (.ifCond .eq 13, 3) := by decide +kernel
theorem dX9_isWord_38 : decode cX9_isWord 38 = .ok (.iload_n 3, 1) := by decide +kernel
theorem dX9_isWord_39 : decode cX9_isWord 39 = .ok (.bipush 46, 2) := by decide +kernel
theorem dX9_isWord_41 : decode cX9_isWord 41 = .ok (.if_icmp .ne 7, 3) := by decide +kernel
theorem dX9_isWord_44 : decode cX9_isWord 44 = .ok (.iconst 1, 1) := by decide +kernel
theorem dX9_isWord_45 : decode cX9_isWord 45 = .ok (.goto 4, 3) := by decide +kernel
theorem dX9_isWord_48 : decode cX9_isWord 48 = .ok (.iconst 0, 1) := by decide +kernel
theorem dX9_isWord_49 : decode cX9_isWord 49 = .ok (.istore 4, 2) := by decide +kernel
theorem dX9_isWord_51 : decode cX9_isWord 51 = .ok (.iload 4, 2) := by decide +kernel
theorem dX9_isWord_53 : decode cX9_isWord 53 = .ok (.ifCond .ne 16, 3) := by decide +kernel
theorem dX9_isWord_56 : decode cX9_isWord 56 = .ok (.iload_n 3, 1) := by decide +kernel
theorem dX9_isWord_57 : decode cX9_isWord 57 = .ok (.bipush 97, 2) := by decide +kernel
theorem dX9_isWord_59 : decode cX9_isWord 59 = .ok (.bipush 122, 2) := by decide +kernel
theorem dX9_isWord_61 : decode cX9_isWord 61 = .ok (.invokestatic 25, 3) := by decide +kernel
theorem dX9_isWord_64 : decode cX9_isWord 64 = .ok (.ifCond .ne 5, 3) := by decide +kernel
theorem dX9_isWord_67 : decode cX9_isWord 67 = .ok (.iconst 0, 1) := by decide +kernel
theorem dX9_isWord_68 : decode cX9_isWord 68 = .ok (.ireturn, 1) := by decide +kernel
theorem dX9_isWord_69 : decode cX9_isWord 69 = .ok (.iinc 2 1, 3) := by decide +kernel
theorem dX9_isWord_72 : decode cX9_isWord 72 = .ok (.goto (-55), 3) := by decide +kernel
theorem dX9_isWord_75 : decode cX9_isWord 75 = .ok (.iconst 1, 1) := by decide +kernel
theorem dX9_isWord_76 : decode cX9_isWord 76 = .ok (.ireturn, 1) := by decide +kernel
theorem dX9_copyTo_0 : decode cX9_copyTo 0 = .ok (.iconst 0, 1) := by decide +kernel
theorem dX9_copyTo_1 : decode cX9_copyTo 1 = .ok (.istore_n 3, 1) := by decide +kernel
theorem dX9_copyTo_2 : decode cX9_copyTo 2 = .ok (.iload_n 3, 1) := by decide +kernel
theorem dX9_copyTo_3 : decode cX9_copyTo 3 = .ok (.aload_n 0, 1) := by decide +kernel
theorem dX9_copyTo_4 : decode cX9_copyTo 4 = .ok (.getfield 13, 3) := by decide +kernel
theorem dX9_copyTo_7 : decode cX9_copyTo 7 = .ok (.if_icmp .ge 24, 3) := by decide +kernel
theorem dX9_copyTo_10 : decode cX9_copyTo 10 = .ok (.aload_n 1, 1) := by decide +kernel
theorem dX9_copyTo_11 : decode cX9_copyTo 11 = .ok (.iload_n 2, 1) := by decide +kernel
theorem dX9_copyTo_12 : decode cX9_copyTo 12 = .ok (.iload_n 3, 1) := by decide +kernel
theorem dX9_copyTo_13 : decode cX9_copyTo 13 = .ok (.iadd, 1) := by decide +kernel
theorem dX9_copyTo_14 : decode cX9_copyTo 14 = .ok (.aload_n 0, 1) := by decide +kernel
theorem dX9_copyTo_15 : decode cX9_copyTo 15 = .ok (.getfield 9, 3) := by decide +kernel
theorem dX9_copyTo_18 : decode cX9_copyTo 18 = .ok (.iload_n 3, 1) := by decide +kernel
theorem dX9_copyTo_19 : decode cX9_copyTo 19 = .ok (.invokestatic 29, 3) := by decide +kernel
theorem dX9_copyTo_22 : decode cX9_copyTo 22 = .ok (.invokestatic 17, 3) := by decide +kernel
theorem dX9_copyTo_25 : decode cX9_copyTo 25 = .ok (.iinc 3 1, 3) := by decide +kernel
theorem dX9_copyTo_28 : decode cX9_copyTo 28 = .ok (.goto (-26), 3) := by decide +kernel
theorem dX9_copyTo_31 : decode cX9_copyTo 31 = .ok (.return_, 1) := by decide +kernel
theorem dX10_init_0 : decode cX10_init 0 = .ok (.aload_n 0, 1) := by decide +kernel
theorem dX10_init_1 : decode cX10_init 1 = .ok (.invokespecial 3, 3) := by decide +kernel
theorem dX10_init_4 : decode cX10_init 4 = .ok (.aload_n 0, 1) := by decide +kernel
theorem dX10_init_5 : decode cX10_init 5 = .ok (.bipush 8, 2) := by decide +kernel
theorem dX10_init_7 : decode cX10_init 7 = .ok (.newarray .int, 2) := by decide +kernel
theorem dX10_init_9 : decode cX10_init 9 = .ok (.putfield 11, 3) := by decide +kernel
theorem dX10_init_12 : decode cX10_init 12 = .ok (.aload_n 0, 1) := by decide +kernel
theorem dX10_init_13 : decode cX10_init 13 = .ok (.bipush 8, 2) := by decide +kernel
theorem dX10_init_15 : decode cX10_init 15 = .ok (.newarray .int, 2) := by decide +kernel
theorem dX10_init_17 : decode cX10_init 17 = .ok (.putfield 15, 3) := by decide +kernel
theorem dX10_init_20 : decode cX10_init 20 = .ok (.aload_n 0, 1) := by decide +kernel
theorem dX10_init_21 : decode cX10_init 21 = .ok (.bipush 8, 2) := by decide +kernel
theorem dX10_init_23 : decode cX10_init 23 = .ok (.newarray .int, 2) := by decide +kernel
theorem dX10_init_25 : decode cX10_init 25 = .ok (.putfield 18, 3) := by decide +kernel
theorem dX10_init_28 : decode cX10_init 28 = .ok (.aload_n 0, 1) := by decide +kernel
theorem dX10_init_29 : decode cX10_init 29 = .ok (.aload_n 1, 1) := by decide +kernel
theorem dX10_init_30 : decode cX10_init 30 = .ok (.putfield 21, 3) := by decide +kernel
theorem dX10_init_33 : decode cX10_init 33 = .ok (.aload_n 0, 1) := by decide +kernel
theorem dX10_init_34 : decode cX10_init 34 = .ok (.aload_n 2, 1) := by decide +kernel
theorem dX10_init_35 : decode cX10_init 35 = .ok (.putfield 25, 3) := by decide +kernel
theorem dX10_init_38 : decode cX10_init 38 = .ok (.return_, 1) := by decide +kernel
theorem dX10_isTest_0 : decode cX10_isTest 0 = .ok (.iload_n 1, 1) := by decide +kernel
theorem dX10_isTest_1 : decode cX10_isTest 1 = .ok (.iconst 0, 1) := by decide +kernel
theorem dX10_isTest_2 : decode cX10_isTest 2 = .ok (.aload_n 0, 1) := by decide +kernel
theorem dX10_isTest_3 : decode cX10_isTest 3 = .ok (.getfield 29, 3) := by decide +kernel
theorem dX10_isTest_6 : decode cX10_isTest 6 = .ok (.iconst 1, 1) := by decide +kernel
theorem dX10_isTest_7 : decode cX10_isTest 7 = .ok (.isub, 1) := by decide +kernel
theorem dX10_isTest_8 : decode cX10_isTest 8 = .ok (.invokestatic 33, 3) := by decide +kernel
theorem dX10_isTest_11 : decode cX10_isTest 11 = .ok (.ireturn, 1) := by decide +kernel
theorem dX10_add_0 : decode cX10_add 0 = .ok (.aload_n 0, 1) := by decide +kernel
theorem dX10_add_1 : decode cX10_add 1 = .ok (.getfield 21, 3) := by decide +kernel
theorem dX10_add_4 : decode cX10_add 4 = .ok (.iload_n 1, 1) := by decide +kernel
theorem dX10_add_5 : decode cX10_add 5 = .ok (.invokevirtual 39, 3) := by decide +kernel
theorem dX10_add_8 : decode cX10_add 8 = .ok (.ifCond .eq 23, 3) := by decide +kernel
theorem dX10_add_11 : decode cX10_add 11 = .ok (.iload_n 2, 1) := by decide +kernel
theorem dX10_add_12 : decode cX10_add 12 = .ok (.iconst 0, 1) := by decide +kernel
theorem dX10_add_13 : decode cX10_add 13 = .ok (.sipush 200, 3) := by decide +kernel
theorem dX10_add_16 : decode cX10_add 16 = .ok (.invokestatic 33, 3) := by decide +kernel
theorem dX10_add_19 : decode cX10_add 19 = .ok (.ifCond .eq 12, 3) := by decide +kernel
theorem dX10_add_22 : decode cX10_add 22 = .ok (.aload_n 0, 1) := by decide +kernel
theorem dX10_add_23 : decode cX10_add 23 = .ok (.getfield 29, 3) := by decide +kernel
theorem dX10_add_26 : decode cX10_add 26 = .ok (.bipush 8, 2) := by decide +kernel
theorem dX10_add_28 : decode cX10_add 28 = .ok (.if_icmp .lt 5, 3) := by decide +kernel
theorem dX10_add_31 : decode cX10_add 31 = .ok (.iconst (-1), 1) := by decide +kernel
theorem dX10_add_32 : decode cX10_add 32 = .ok (.ireturn, 1) := by decide +kernel
theorem dX10_add_33 : decode cX10_add 33 = .ok (.aload_n 0, 1) := by decide +kernel
theorem dX10_add_34 : decode cX10_add 34 = .ok (.getfield 11, 3) := by decide +kernel
theorem dX10_add_37 : decode cX10_add 37 = .ok (.aload_n 0, 1) := by decide +kernel
theorem dX10_add_38 : decode cX10_add 38 = .ok (.getfield 29, 3) := by decide +kernel
theorem dX10_add_41 : decode cX10_add 41 = .ok (.iload_n 1, 1) := by decide +kernel
theorem dX10_add_42 : decode cX10_add 42 = .ok (.invokestatic 45, 3) := by decide +kernel
theorem dX10_add_45 : decode cX10_add 45 = .ok (.aload_n 0, 1) := by decide +kernel
theorem dX10_add_46 : decode cX10_add 46 = .ok (.getfield 15, 3) := by decide +kernel
theorem dX10_add_49 : decode cX10_add 49 = .ok (.aload_n 0, 1) := by decide +kernel
theorem dX10_add_50 : decode cX10_add 50 = .ok (.getfield 29, 3) := by decide +kernel
theorem dX10_add_53 : decode cX10_add 53 = .ok (.iload_n 2, 1) := by decide +kernel
theorem dX10_add_54 : decode cX10_add 54 = .ok (.invokestatic 45, 3) := by decide +kernel
theorem dX10_add_57 : decode cX10_add 57 = .ok (.aload_n 0, 1) := by decide +kernel
theorem dX10_add_58 : decode cX10_add 58 = .ok (.dup, 1) := by decide +kernel
theorem dX10_add_59 : decode cX10_add 59 = .ok (.getfield 29, 3) := by decide +kernel
theorem dX10_add_62 : decode cX10_add 62 = .ok (.dup_x1, 1) := by decide +kernel
theorem dX10_add_63 : decode cX10_add 63 = .ok (.iconst 1, 1) := by decide +kernel
theorem dX10_add_64 : decode cX10_add 64 = .ok (.iadd, 1) := by decide +kernel
theorem dX10_add_65 : decode cX10_add 65 = .ok (.putfield 29, 3) := by decide +kernel
theorem dX10_add_68 : decode cX10_add 68 = .ok (.ireturn, 1) := by decide +kernel
theorem dX10_seenBy_0 : decode cX10_seenBy 0 = .ok (.iconst 0, 1) := by decide +kernel
theorem dX10_seenBy_1 : decode cX10_seenBy 1 = .ok (.istore_n 3, 1) := by decide +kernel
theorem dX10_seenBy_2 : decode cX10_seenBy 2 = .ok (.iconst 0, 1) := by decide +kernel
theorem dX10_seenBy_3 : decode cX10_seenBy 3 = .ok (.istore 4, 2) := by decide +kernel
theorem dX10_seenBy_5 : decode cX10_seenBy 5 = .ok (.iload 4, 2) := by decide +kernel
theorem dX10_seenBy_7 : decode cX10_seenBy 7 = .ok (.aload_n 0, 1) := by decide +kernel
theorem dX10_seenBy_8 : decode cX10_seenBy 8 = .ok (.getfield 25, 3) := by decide +kernel
theorem dX10_seenBy_11 : decode cX10_seenBy 11 = .ok (.iload_n 2, 1) := by decide +kernel
theorem dX10_seenBy_12 : decode cX10_seenBy 12 = .ok (.invokevirtual 49, 3) := by decide +kernel
theorem dX10_seenBy_15 : decode cX10_seenBy 15 = .ok (.if_icmp .ge 28, 3) := by decide +kernel
theorem dX10_seenBy_18 : decode cX10_seenBy 18 = .ok (.aload_n 0, 1) := by decide +kernel
theorem dX10_seenBy_19 : decode cX10_seenBy 19 = .ok (.iload_n 1, 1) := by decide +kernel
theorem dX10_seenBy_20 : decode cX10_seenBy 20 = .ok (.iload_n 2, 1) := by decide +kernel
theorem dX10_seenBy_21 : decode cX10_seenBy 21 = .ok (.iload 4, 2) := by decide +kernel
theorem dX10_seenBy_23 : decode cX10_seenBy 23 = .ok (.invokevirtual 55, 3) := by decide +kernel
theorem dX10_seenBy_26 : decode cX10_seenBy 26 = .ok (.ifCond .eq 11, 3) := by decide +kernel
theorem dX10_seenBy_29 : decode cX10_seenBy 29 = .ok (.iload_n 3, 1) := by decide +kernel
theorem dX10_seenBy_30 : decode cX10_seenBy 30 = .ok (.iload 4, 2) := by decide +kernel
theorem dX10_seenBy_32 : decode cX10_seenBy 32 = .ok (.invokestatic 58, 3) := by decide +kernel
theorem dX10_seenBy_35 : decode cX10_seenBy 35 = .ok (.ior, 1) := by decide +kernel
theorem dX10_seenBy_36 : decode cX10_seenBy 36 = .ok (.istore_n 3, 1) := by decide +kernel
theorem dX10_seenBy_37 : decode cX10_seenBy 37 = .ok (.iinc 4 1, 3) := by decide +kernel
theorem dX10_seenBy_40 : decode cX10_seenBy 40 = .ok (.goto (-35), 3) := by decide +kernel
theorem dX10_seenBy_43 : decode cX10_seenBy 43 = .ok (.iload_n 3, 1) := by decide +kernel
theorem dX10_seenBy_44 : decode cX10_seenBy 44 = .ok (.ireturn, 1) := by decide +kernel
theorem dX10_seesFault_0 : decode cX10_seesFault 0 = .ok (.iconst 0, 1) := by decide +kernel
theorem dX10_seesFault_1 : decode cX10_seesFault 1 = .ok (.istore 4, 2) := by decide +kernel
theorem dX10_seesFault_3 : decode cX10_seesFault 3 = .ok (.iload 4, 2) := by decide +kernel
theorem dX10_seesFault_5 : decode cX10_seesFault 5 = .ok (.aload_n 0, 1) := by decide +kernel
theorem dX10_seesFault_6 : decode cX10_seesFault 6 = .ok (.getfield 21, 3) := by decide +kernel
theorem dX10_seesFault_9 : decode cX10_seesFault 9 = .ok (.getfield 61, 3) := by decide +kernel
theorem dX10_seesFault_12 : decode cX10_seesFault 12 = .ok (.if_icmp .ge 43, 3) := by decide +kernel
theorem dX10_seesFault_15 : decode cX10_seesFault 15 = .ok (.aload_n 0, 1) := by decide +kernel
theorem dX10_seesFault_16 : decode cX10_seesFault 16 = .ok (.getfield 21, 3) := by decide +kernel
theorem dX10_seesFault_19 : decode cX10_seesFault 19 = .ok (.iload 4, 2) := by decide +kernel
theorem dX10_seesFault_21 : decode cX10_seesFault 21 = .ok (.invokevirtual 64, 3) := by decide +kernel
theorem dX10_seesFault_24 : decode cX10_seesFault 24 = .ok (.ifCond .eq 25, 3) := by decide +kernel
theorem dX10_seesFault_27 : decode cX10_seesFault 27 = .ok (.aload_n 0, 1) := by decide +kernel
theorem dX10_seesFault_28 : decode cX10_seesFault 28 = .ok (.iload_n 1, 1) := by decide +kernel
theorem dX10_seesFault_29 : decode cX10_seesFault 29 = .ok (.iload_n 2, 1) := by decide +kernel
theorem dX10_seesFault_30 : decode cX10_seesFault 30 = .ok (.iload_n 3, 1) := by decide +kernel
theorem dX10_seesFault_31 : decode cX10_seesFault 31 = .ok (.iload 4, 2) := by decide +kernel
theorem dX10_seesFault_33 : decode cX10_seesFault 33 = .ok (.invokevirtual 67, 3) := by decide +kernel
theorem dX10_seesFault_36 : decode cX10_seesFault 36 = .ok (.aload_n 0, 1) := by decide +kernel
theorem dX10_seesFault_37 : decode cX10_seesFault 37 = .ok (.iload_n 1, 1) := by decide +kernel
theorem dX10_seesFault_38 : decode cX10_seesFault 38 = .ok (.iload 4, 2) := by decide +kernel
theorem dX10_seesFault_40 : decode cX10_seesFault 40 = .ok (.iconst 0, 1) := by decide +kernel
theorem dX10_seesFault_41 : decode cX10_seesFault 41 = .ok (.invokevirtual 71, 3) := by decide +kernel
theorem dX10_seesFault_44 : decode cX10_seesFault 44 = .ok (.if_icmp .eq 5, 3) := by decide +kernel
theorem dX10_seesFault_47 : decode cX10_seesFault 47 = .ok (.iconst 1, 1) := by decide +kernel
theorem dX10_seesFault_48 : decode cX10_seesFault 48 = .ok (.ireturn, 1) := by decide +kernel
theorem dX10_seesFault_49 : decode cX10_seesFault 49 = .ok (.iinc 4 1, 3) := by decide +kernel
theorem dX10_seesFault_52 : decode cX10_seesFault 52 = .ok (.goto (-49), 3) := by decide +kernel
theorem dX10_seesFault_55 : decode cX10_seesFault 55 = .ok (.iconst 0, 1) := by decide +kernel
theorem dX10_seesFault_56 : decode cX10_seesFault 56 = .ok (.ireturn, 1) := by decide +kernel
theorem dX10_pulls_0 : decode cX10_pulls 0 = .ok (.aload_n 0, 1) := by decide +kernel
theorem dX10_pulls_1 : decode cX10_pulls 1 = .ok (.getfield 11, 3) := by decide +kernel
theorem dX10_pulls_4 : decode cX10_pulls 4 = .ok (.iload_n 1, 1) := by decide +kernel
theorem dX10_pulls_5 : decode cX10_pulls 5 = .ok (.invokestatic 75, 3) := by decide +kernel
theorem dX10_pulls_8 : decode cX10_pulls 8 = .ok (.istore 4, 2) := by decide +kernel
theorem dX10_pulls_10 : decode cX10_pulls 10 = .ok (.iload 4, 2) := by decide +kernel
theorem dX10_pulls_12 : decode cX10_pulls 12 = .ok (.iload_n 2, 1) := by decide +kernel
theorem dX10_pulls_13 : decode cX10_pulls 13 = .ok (.invokestatic 79, 3) := by decide +kernel
theorem dX10_pulls_16 : decode cX10_pulls 16 = .ok (.ifCond .eq 20, 3) := by decide +kernel
theorem dX10_pulls_19 : decode cX10_pulls 19 = .ok (.aload_n 0, 1) := by decide +kernel
theorem dX10_pulls_20 : decode cX10_pulls 20 = .ok (.getfield 21, 3) := by decide +kernel
theorem dX10_pulls_23 : decode cX10_pulls 23 = .ok (.iload 4, 2) := by decide +kernel
theorem dX10_pulls_25 : decode cX10_pulls 25 = .ok (.iload_n 3, 1) := by decide +kernel
theorem dX10_pulls_26 : decode cX10_pulls 26 = .ok (.invokevirtual 83, 3) := by decide +kernel
theorem dX10_pulls_29 : decode cX10_pulls 29 = .ok (.ifCond .ne 7, 3) := by decide +kernel
theorem dX10_pulls_32 : decode cX10_pulls 32 = .ok (.iconst 1, 1) := by decide +kernel
theorem dX10_pulls_33 : decode cX10_pulls 33 = .ok (.goto 4, 3) := by decide +kernel
theorem dX10_pulls_36 : decode cX10_pulls 36 = .ok (.iconst 0, 1) := by decide +kernel
theorem dX10_pulls_37 : decode cX10_pulls 37 = .ok (.istore 5, 2) := by decide +kernel
theorem dX10_pulls_39 : decode cX10_pulls 39 = .ok (.iload 5, 2) := by decide +kernel
theorem dX10_pulls_41 : decode cX10_pulls 41 = .ok (.ifCond .eq 14, 3) := by decide +kernel
theorem dX10_pulls_44 : decode cX10_pulls 44 = .ok (.aload_n 0, 1) := by decide +kernel
theorem dX10_pulls_45 : decode cX10_pulls 45 = .ok (.getfield 15, 3) := by decide +kernel
theorem dX10_pulls_48 : decode cX10_pulls 48 = .ok (.iload_n 1, 1) := by decide +kernel
theorem dX10_pulls_49 : decode cX10_pulls 49 = .ok (.invokestatic 75, 3) := by decide +kernel
theorem dX10_pulls_52 : decode cX10_pulls 52 = .ok (.goto 4, 3) := by decide +kernel
theorem dX10_pulls_55 : decode cX10_pulls 55 = .ok (.iconst 0, 1) := by decide +kernel
theorem dX10_pulls_56 : decode cX10_pulls 56 = .ok (.ireturn, 1) := by decide +kernel
theorem dX10_shows_0 : decode cX10_shows 0 = .ok (.aload_n 0, 1) := by decide +kernel
theorem dX10_shows_1 : decode cX10_shows 1 = .ok (.getfield 25, 3) := by decide +kernel
theorem dX10_shows_4 : decode cX10_shows 4 = .ok (.iload_n 2, 1) := by decide +kernel
theorem dX10_shows_5 : decode cX10_shows 5 = .ok (.iload_n 3, 1) := by decide +kernel
theorem dX10_shows_6 : decode cX10_shows 6 = .ok (.invokevirtual 87, 3) := by decide +kernel
theorem dX10_shows_9 : decode cX10_shows 9 = .ok (.istore 5, 2) := by decide +kernel
theorem dX10_shows_11 : decode cX10_shows 11 = .ok (.aload_n 0, 1) := by decide +kernel
theorem dX10_shows_12 : decode cX10_shows 12 = .ok (.getfield 25, 3) := by decide +kernel
theorem dX10_shows_15 : decode cX10_shows 15 = .ok (.iload_n 2, 1) := by decide +kernel
theorem dX10_shows_16 : decode cX10_shows 16 = .ok (.iload_n 3, 1) := by decide +kernel
theorem dX10_shows_17 : decode cX10_shows 17 = .ok (.invokevirtual 90, 3) := by decide +kernel
theorem dX10_shows_20 : decode cX10_shows 20 = .ok (.istore 6, 2) := by decide +kernel
theorem dX10_shows_22 : decode cX10_shows 22 = .ok (.aload_n 0, 1) := by decide +kernel
theorem dX10_shows_23 : decode cX10_shows 23 = .ok (.getfield 25, 3) := by decide +kernel
theorem dX10_shows_26 : decode cX10_shows 26 = .ok (.iload_n 2, 1) := by decide +kernel
theorem dX10_shows_27 : decode cX10_shows 27 = .ok (.iload_n 3, 1) := by decide +kernel
theorem dX10_shows_28 : decode cX10_shows 28 = .ok (.invokevirtual 93, 3) := by decide +kernel
theorem dX10_shows_31 : decode cX10_shows 31 = .ok (.istore 7, 2) := by decide +kernel
theorem dX10_shows_33 : decode cX10_shows 33 = .ok (.iload 7, 2) := by decide +kernel
theorem dX10_shows_35 : decode cX10_shows 35 = .ok (.iconst 4, 1) := by decide +kernel
theorem dX10_shows_36 : decode cX10_shows 36 = .ok (.if_icmp .ne 20, 3) := by decide +kernel
theorem dX10_shows_39 : decode cX10_shows 39 = .ok (.aload_n 0, 1) := by decide +kernel
theorem dX10_shows_40 : decode cX10_shows 40 = .ok (.iload_n 1, 1) := by decide +kernel
theorem dX10_shows_41 : decode cX10_shows 41 = .ok (.iload 4, 2) := by decide +kernel
theorem dX10_shows_43 : decode cX10_shows 43 = .ok (.aload_n 0, 1) := by decide +kernel
theorem dX10_shows_44 : decode cX10_shows 44 = .ok (.getfield 21, 3) := by decide +kernel
theorem dX10_shows_47 : decode cX10_shows 47 = .ok (.iload 5, 2) := by decide +kernel
theorem dX10_shows_49 : decode cX10_shows 49 = .ok (.invokevirtual 96, 3) := by decide +kernel
theorem dX10_shows_52 : decode cX10_shows 52 = .ok (.invokevirtual 71, 3) := by decide +kernel
theorem dX10_shows_55 : decode cX10_shows 55 = .ok (.ireturn, 1) := by decide +kernel
theorem dX10_shows_56 : decode cX10_shows 56 = .ok (.iload 7, 2) := by decide +kernel
theorem dX10_shows_58 : decode cX10_shows 58 = .ok (.iconst 1, 1) := by decide +kernel
theorem dX10_shows_59 : decode cX10_shows 59 = .ok (.if_icmp .ne 19, 3) := by decide +kernel
theorem dX10_shows_62 : decode cX10_shows 62 = .ok (.iload 4, 2) := by decide +kernel
theorem dX10_shows_64 : decode cX10_shows 64 = .ok (.iload 6, 2) := by decide +kernel
theorem dX10_shows_66 : decode cX10_shows 66 = .ok (.if_icmp .ne 12, 3) := by decide +kernel
theorem dX10_shows_69 : decode cX10_shows 69 = .ok (.aload_n 0, 1) := by decide +kernel
theorem dX10_shows_70 : decode cX10_shows 70 = .ok (.iload_n 1, 1) := by decide +kernel
theorem dX10_shows_71 : decode cX10_shows 71 = .ok (.iload 5, 2) := by decide +kernel
theorem dX10_shows_73 : decode cX10_shows 73 = .ok (.iconst 0, 1) := by decide +kernel
theorem dX10_shows_74 : decode cX10_shows 74 = .ok (.invokevirtual 71, 3) := by decide +kernel
theorem dX10_shows_77 : decode cX10_shows 77 = .ok (.ireturn, 1) := by decide +kernel
theorem dX10_shows_78 : decode cX10_shows 78 = .ok (.aload_n 0, 1) := by decide +kernel
theorem dX10_shows_79 : decode cX10_shows 79 = .ok (.iload_n 1, 1) := by decide +kernel
theorem dX10_shows_80 : decode cX10_shows 80 = .ok (.iload 4, 2) := by decide +kernel
theorem dX10_shows_82 : decode cX10_shows 82 = .ok (.iconst 0, 1) := by decide +kernel
theorem dX10_shows_83 : decode cX10_shows 83 = .ok (.invokevirtual 71, 3) := by decide +kernel
theorem dX10_shows_86 : decode cX10_shows 86 = .ok (.istore 8, 2) := by decide +kernel
theorem dX10_shows_88 : decode cX10_shows 88 = .ok (.iload 4, 2) := by decide +kernel
theorem dX10_shows_90 : decode cX10_shows 90 = .ok (.iload 5, 2) := by decide +kernel
theorem dX10_shows_92 : decode cX10_shows 92 = .ok (.if_icmp .eq 6, 3) := by decide +kernel
theorem dX10_shows_95 : decode cX10_shows 95 = .ok (.iload 8, 2) := by decide +kernel
theorem dX10_shows_97 : decode cX10_shows 97 = .ok (.ireturn, 1) := by decide +kernel
theorem dX10_shows_98 : decode cX10_shows 98 = .ok (.iload 7, 2) := by decide +kernel
theorem dX10_shows_100 : decode cX10_shows 100 = .ok (.tableswitch 50 0 2 #[28, 39, 48], 28) := by decide +kernel
theorem dX10_shows_128 : decode cX10_shows 128 = .ok (.iload 8, 2) := by decide +kernel
theorem dX10_shows_130 : decode cX10_shows 130 = .ok (.iload 6, 2) := by decide +kernel
theorem dX10_shows_132 : decode cX10_shows 132 = .ok (.invokestatic 99, 3) := by decide +kernel
theorem dX10_shows_135 : decode cX10_shows 135 = .ok (.invokestatic 102, 3) := by decide +kernel
theorem dX10_shows_138 : decode cX10_shows 138 = .ok (.ireturn, 1) := by decide +kernel
theorem dX10_shows_139 : decode cX10_shows 139 = .ok (.aload_n 0, 1) := by decide +kernel
theorem dX10_shows_140 : decode cX10_shows 140 = .ok (.iload_n 1, 1) := by decide +kernel
theorem dX10_shows_141 : decode cX10_shows 141 = .ok (.iload 6, 2) := by decide +kernel
theorem dX10_shows_143 : decode cX10_shows 143 = .ok (.iconst 0, 1) := by decide +kernel
theorem dX10_shows_144 : decode cX10_shows 144 = .ok (.invokevirtual 71, 3) := by decide +kernel
theorem dX10_shows_147 : decode cX10_shows 147 = .ok (.ireturn, 1) := by decide +kernel
theorem dX10_shows_148 : decode cX10_shows 148 = .ok (.iconst 0, 1) := by decide +kernel
theorem dX10_shows_149 : decode cX10_shows 149 = .ok (.ireturn, 1) := by decide +kernel
theorem dX10_shows_150 : decode cX10_shows 150 = .ok (.iload 6, 2) := by decide +kernel
theorem dX10_shows_152 : decode cX10_shows 152 = .ok (.iload 8, 2) := by decide +kernel
theorem dX10_shows_154 : decode cX10_shows 154 = .ok (.iadd, 1) := by decide +kernel
theorem dX10_shows_155 : decode cX10_shows 155 = .ok (.sipush 1000, 3) := by decide +kernel
theorem dX10_shows_158 : decode cX10_shows 158 = .ok (.invokestatic 102, 3) := by decide +kernel
theorem dX10_shows_161 : decode cX10_shows 161 = .ok (.ireturn, 1) := by decide +kernel
theorem dX10_fewestSeeingAll_0 : decode cX10_fewestSeeingAll 0 = .ok (.iconst 0, 1) := by decide +kernel
theorem dX10_fewestSeeingAll_1 : decode cX10_fewestSeeingAll 1 = .ok (.istore_n 2, 1) := by decide +kernel
theorem dX10_fewestSeeingAll_2 : decode cX10_fewestSeeingAll 2 = .ok (.iconst 0, 1) := by decide +kernel
theorem dX10_fewestSeeingAll_3 : decode cX10_fewestSeeingAll 3 = .ok (.istore_n 3, 1) := by decide +kernel
theorem dX10_fewestSeeingAll_4 : decode cX10_fewestSeeingAll 4 = .ok (.iload_n 3, 1) := by decide +kernel
theorem dX10_fewestSeeingAll_5 : decode cX10_fewestSeeingAll 5 = .ok (.aload_n 0, 1) := by decide +kernel
theorem dX10_fewestSeeingAll_6 : decode cX10_fewestSeeingAll 6 = .ok (.getfield 29, 3) := by decide +kernel
theorem dX10_fewestSeeingAll_9 : decode cX10_fewestSeeingAll 9 = .ok (.if_icmp .ge 34, 3) := by decide +kernel
theorem dX10_fewestSeeingAll_12 : decode cX10_fewestSeeingAll 12 = .ok (.aload_n 0, 1) := by decide +kernel
theorem dX10_fewestSeeingAll_13 : decode cX10_fewestSeeingAll 13 = .ok (.getfield 18, 3) := by decide +kernel
theorem dX10_fewestSeeingAll_16 : decode cX10_fewestSeeingAll 16 = .ok (.iload_n 3, 1) := by decide +kernel
theorem dX10_fewestSeeingAll_17 : decode cX10_fewestSeeingAll 17 = .ok (.aload_n 0, 1) := by decide +kernel
theorem dX10_fewestSeeingAll_18 : decode cX10_fewestSeeingAll 18 = .ok (.iload_n 3, 1) := by decide +kernel
theorem dX10_fewestSeeingAll_19 : decode cX10_fewestSeeingAll 19 = .ok (.iload_n 1, 1) := by decide +kernel
theorem dX10_fewestSeeingAll_20 : decode cX10_fewestSeeingAll 20 = .ok (.invokevirtual 107, 3) := by decide +kernel
theorem dX10_fewestSeeingAll_23 : decode cX10_fewestSeeingAll 23 = .ok (.invokestatic 45, 3) := by decide +kernel
theorem dX10_fewestSeeingAll_26 : decode cX10_fewestSeeingAll 26 = .ok (.iload_n 2, 1) := by decide +kernel
theorem dX10_fewestSeeingAll_27 : decode cX10_fewestSeeingAll 27 = .ok (.aload_n 0, 1) := by decide +kernel
theorem dX10_fewestSeeingAll_28 : decode cX10_fewestSeeingAll 28 = .ok (.getfield 18, 3) := by decide +kernel
theorem dX10_fewestSeeingAll_31 : decode cX10_fewestSeeingAll 31 = .ok (.iload_n 3, 1) := by decide +kernel
theorem dX10_fewestSeeingAll_32 : decode cX10_fewestSeeingAll 32 = .ok (.invokestatic 75, 3) := by decide +kernel
theorem dX10_fewestSeeingAll_35 : decode cX10_fewestSeeingAll 35 = .ok (.ior, 1) := by decide +kernel
theorem dX10_fewestSeeingAll_36 : decode cX10_fewestSeeingAll 36 = .ok (.istore_n 2, 1) := by decide +kernel
theorem dX10_fewestSeeingAll_37 : decode cX10_fewestSeeingAll 37 = .ok (.iinc 3 1, 3) := by decide +kernel
theorem dX10_fewestSeeingAll_40 : decode cX10_fewestSeeingAll 40 = .ok (.goto (-36), 3) := by decide +kernel
theorem dX10_fewestSeeingAll_43 : decode cX10_fewestSeeingAll 43 = .ok (.aload_n 0, 1) := by decide +kernel
theorem dX10_fewestSeeingAll_44 : decode cX10_fewestSeeingAll 44 = .ok (.getfield 29, 3) := by decide +kernel
theorem dX10_fewestSeeingAll_47 : decode cX10_fewestSeeingAll 47 = .ok (.invokestatic 110, 3) := by decide +kernel
theorem dX10_fewestSeeingAll_50 : decode cX10_fewestSeeingAll 50 = .ok (.istore_n 3, 1) := by decide +kernel
theorem dX10_fewestSeeingAll_51 : decode cX10_fewestSeeingAll 51 = .ok (.iconst 0, 1) := by decide +kernel
theorem dX10_fewestSeeingAll_52 : decode cX10_fewestSeeingAll 52 = .ok (.istore 4, 2) := by decide +kernel
theorem dX10_fewestSeeingAll_54 : decode cX10_fewestSeeingAll 54 = .ok (.iload 4, 2) := by decide +kernel
theorem dX10_fewestSeeingAll_56 : decode cX10_fewestSeeingAll 56 = .ok (.aload_n 0, 1) := by decide +kernel
theorem dX10_fewestSeeingAll_57 : decode cX10_fewestSeeingAll 57 = .ok (.getfield 29, 3) := by decide +kernel
theorem dX10_fewestSeeingAll_60 : decode cX10_fewestSeeingAll 60 = .ok (.invokestatic 110, 3) := by decide +kernel
theorem dX10_fewestSeeingAll_63 : decode cX10_fewestSeeingAll 63 = .ok (.if_icmp .gt 31, 3) := by decide +kernel
theorem dX10_fewestSeeingAll_66 : decode cX10_fewestSeeingAll 66 = .ok (.iload 4, 2) := by decide +kernel
theorem dX10_fewestSeeingAll_68 : decode cX10_fewestSeeingAll 68 = .ok (.iload_n 3, 1) := by decide +kernel
theorem dX10_fewestSeeingAll_69 : decode cX10_fewestSeeingAll 69 = .ok (.invokestatic 113, 3) := by decide +kernel
theorem dX10_fewestSeeingAll_72 : decode cX10_fewestSeeingAll 72 = .ok (.ifCond .eq 16, 3) := by decide +kernel
theorem dX10_fewestSeeingAll_75 : decode cX10_fewestSeeingAll 75 = .ok (.aload_n 0, 1) := by decide +kernel
theorem dX10_fewestSeeingAll_76 : decode cX10_fewestSeeingAll 76 = .ok (.iload 4, 2) := by decide +kernel
theorem dX10_fewestSeeingAll_78 : decode cX10_fewestSeeingAll 78 = .ok (.invokevirtual 116, 3) := by decide +kernel
theorem dX10_fewestSeeingAll_81 : decode cX10_fewestSeeingAll 81 = .ok (.iload_n 2, 1) := by decide +kernel
theorem dX10_fewestSeeingAll_82 : decode cX10_fewestSeeingAll 82 = .ok (.if_icmp .ne 6, 3) := by decide +kernel
theorem dX10_fewestSeeingAll_85 : decode cX10_fewestSeeingAll 85 = .ok (.iload 4, 2) := by decide +kernel
theorem dX10_fewestSeeingAll_87 : decode cX10_fewestSeeingAll 87 = .ok (.istore_n 3, 1) := by decide +kernel
theorem dX10_fewestSeeingAll_88 : decode cX10_fewestSeeingAll 88 = .ok (.iinc 4 1, 3) := by decide +kernel
theorem dX10_fewestSeeingAll_91 : decode cX10_fewestSeeingAll 91 = .ok (.goto (-37), 3) := by decide +kernel
theorem dX10_fewestSeeingAll_94 : decode cX10_fewestSeeingAll 94 = .ok (.iload_n 3, 1) := by decide +kernel
theorem dX10_fewestSeeingAll_95 : decode cX10_fewestSeeingAll 95 = .ok (.ireturn, 1) := by decide +kernel
theorem dX10_seenByAnyOf_0 : decode cX10_seenByAnyOf 0 = .ok (.iconst 0, 1) := by decide +kernel
theorem dX10_seenByAnyOf_1 : decode cX10_seenByAnyOf 1 = .ok (.istore_n 2, 1) := by decide +kernel
theorem dX10_seenByAnyOf_2 : decode cX10_seenByAnyOf 2 = .ok (.iconst 0, 1) := by decide +kernel
theorem dX10_seenByAnyOf_3 : decode cX10_seenByAnyOf 3 = .ok (.istore_n 3, 1) := by decide +kernel
theorem dX10_seenByAnyOf_4 : decode cX10_seenByAnyOf 4 = .ok (.iload_n 3, 1) := by decide +kernel
theorem dX10_seenByAnyOf_5 : decode cX10_seenByAnyOf 5 = .ok (.aload_n 0, 1) := by decide +kernel
theorem dX10_seenByAnyOf_6 : decode cX10_seenByAnyOf 6 = .ok (.getfield 29, 3) := by decide +kernel
theorem dX10_seenByAnyOf_9 : decode cX10_seenByAnyOf 9 = .ok (.if_icmp .ge 28, 3) := by decide +kernel
theorem dX10_seenByAnyOf_12 : decode cX10_seenByAnyOf 12 = .ok (.iload_n 1, 1) := by decide +kernel
theorem dX10_seenByAnyOf_13 : decode cX10_seenByAnyOf 13 = .ok (.iload_n 3, 1) := by decide +kernel
theorem dX10_seenByAnyOf_14 : decode cX10_seenByAnyOf 14 = .ok (.invokestatic 79, 3) := by decide +kernel
theorem dX10_seenByAnyOf_17 : decode cX10_seenByAnyOf 17 = .ok (.ifCond .eq 14, 3) := by decide +kernel
theorem dX10_seenByAnyOf_20 : decode cX10_seenByAnyOf 20 = .ok (.iload_n 2, 1) := by decide +kernel
theorem dX10_seenByAnyOf_21 : decode cX10_seenByAnyOf 21 = .ok (.aload_n 0, 1) := by decide +kernel
theorem dX10_seenByAnyOf_22 : decode cX10_seenByAnyOf 22 = .ok (.getfield 18, 3) := by decide +kernel
theorem dX10_seenByAnyOf_25 : decode cX10_seenByAnyOf 25 = .ok (.iload_n 3, 1) := by decide +kernel
theorem dX10_seenByAnyOf_26 : decode cX10_seenByAnyOf 26 = .ok (.invokestatic 75, 3) := by decide +kernel
theorem dX10_seenByAnyOf_29 : decode cX10_seenByAnyOf 29 = .ok (.ior, 1) := by decide +kernel
theorem dX10_seenByAnyOf_30 : decode cX10_seenByAnyOf 30 = .ok (.istore_n 2, 1) := by decide +kernel
theorem dX10_seenByAnyOf_31 : decode cX10_seenByAnyOf 31 = .ok (.iinc 3 1, 3) := by decide +kernel
theorem dX10_seenByAnyOf_34 : decode cX10_seenByAnyOf 34 = .ok (.goto (-30), 3) := by decide +kernel
theorem dX10_seenByAnyOf_37 : decode cX10_seenByAnyOf 37 = .ok (.iload_n 2, 1) := by decide +kernel
theorem dX10_seenByAnyOf_38 : decode cX10_seenByAnyOf 38 = .ok (.ireturn, 1) := by decide +kernel
theorem dX11_init_0 : decode cX11_init 0 = .ok (.aload_n 0, 1) := by decide +kernel
theorem dX11_init_1 : decode cX11_init 1 = .ok (.invokespecial 1, 3) := by decide +kernel
theorem dX11_init_4 : decode cX11_init 4 = .ok (.aload_n 0, 1) := by decide +kernel
theorem dX11_init_5 : decode cX11_init 5 = .ok (.new 7, 3) := by decide +kernel
theorem dX11_init_8 : decode cX11_init 8 = .ok (.dup, 1) := by decide +kernel
theorem dX11_init_9 : decode cX11_init 9 = .ok (.iload_n 1, 1) := by decide +kernel
theorem dX11_init_10 : decode cX11_init 10 = .ok (.invokespecial 9, 3) := by decide +kernel
theorem dX11_init_13 : decode cX11_init 13 = .ok (.putfield 12, 3) := by decide +kernel
theorem dX11_init_16 : decode cX11_init 16 = .ok (.aload_n 0, 1) := by decide +kernel
theorem dX11_init_17 : decode cX11_init 17 = .ok (.new 18, 3) := by decide +kernel
theorem dX11_init_20 : decode cX11_init 20 = .ok (.dup, 1) := by decide +kernel
theorem dX11_init_21 : decode cX11_init 21 = .ok (.invokespecial 20, 3) := by decide +kernel
theorem dX11_init_24 : decode cX11_init 24 = .ok (.putfield 21, 3) := by decide +kernel
theorem dX11_init_27 : decode cX11_init 27 = .ok (.aload_n 0, 1) := by decide +kernel
theorem dX11_init_28 : decode cX11_init 28 = .ok (.new 25, 3) := by decide +kernel
theorem dX11_init_31 : decode cX11_init 31 = .ok (.dup, 1) := by decide +kernel
theorem dX11_init_32 : decode cX11_init 32 = .ok (.invokespecial 27, 3) := by decide +kernel
theorem dX11_init_35 : decode cX11_init 35 = .ok (.putfield 28, 3) := by decide +kernel
theorem dX11_init_38 : decode cX11_init 38 = .ok (.aload_n 0, 1) := by decide +kernel
theorem dX11_init_39 : decode cX11_init 39 = .ok (.new 32, 3) := by decide +kernel
theorem dX11_init_42 : decode cX11_init 42 = .ok (.dup, 1) := by decide +kernel
theorem dX11_init_43 : decode cX11_init 43 = .ok (.aload_n 0, 1) := by decide +kernel
theorem dX11_init_44 : decode cX11_init 44 = .ok (.getfield 12, 3) := by decide +kernel
theorem dX11_init_47 : decode cX11_init 47 = .ok (.invokespecial 34, 3) := by decide +kernel
theorem dX11_init_50 : decode cX11_init 50 = .ok (.putfield 37, 3) := by decide +kernel
theorem dX11_init_53 : decode cX11_init 53 = .ok (.aload_n 0, 1) := by decide +kernel
theorem dX11_init_54 : decode cX11_init 54 = .ok (.new 41, 3) := by decide +kernel
theorem dX11_init_57 : decode cX11_init 57 = .ok (.dup, 1) := by decide +kernel
theorem dX11_init_58 : decode cX11_init 58 = .ok (.aload_n 0, 1) := by decide +kernel
theorem dX11_init_59 : decode cX11_init 59 = .ok (.getfield 12, 3) := by decide +kernel
theorem dX11_init_62 : decode cX11_init 62 = .ok (.aload_n 0, 1) := by decide +kernel
theorem dX11_init_63 : decode cX11_init 63 = .ok (.getfield 37, 3) := by decide +kernel
theorem dX11_init_66 : decode cX11_init 66 = .ok (.invokespecial 43, 3) := by decide +kernel
theorem dX11_init_69 : decode cX11_init 69 = .ok (.putfield 46, 3) := by decide +kernel
theorem dX11_init_72 : decode cX11_init 72 = .ok (.aload_n 0, 1) := by decide +kernel
theorem dX11_init_73 : decode cX11_init 73 = .ok (.new 50, 3) := by decide +kernel
theorem dX11_init_76 : decode cX11_init 76 = .ok (.dup, 1) := by decide +kernel
theorem dX11_init_77 : decode cX11_init 77 = .ok (.aload_n 0, 1) := by decide +kernel
theorem dX11_init_78 : decode cX11_init 78 = .ok (.getfield 12, 3) := by decide +kernel
theorem dX11_init_81 : decode cX11_init 81 = .ok (.aload_n 0, 1) := by decide +kernel
theorem dX11_init_82 : decode cX11_init 82 = .ok (.getfield 37, 3) := by decide +kernel
theorem dX11_init_85 : decode cX11_init 85 = .ok (.aload_n 0, 1) := by decide +kernel
theorem dX11_init_86 : decode cX11_init 86 = .ok (.getfield 46, 3) := by decide +kernel
theorem dX11_init_89 : decode cX11_init 89 = .ok (.invokespecial 52, 3) := by decide +kernel
theorem dX11_init_92 : decode cX11_init 92 = .ok (.putfield 55, 3) := by decide +kernel
theorem dX11_init_95 : decode cX11_init 95 = .ok (.aload_n 0, 1) := by decide +kernel
theorem dX11_init_96 : decode cX11_init 96 = .ok (.new 59, 3) := by decide +kernel
theorem dX11_init_99 : decode cX11_init 99 = .ok (.dup, 1) := by decide +kernel
theorem dX11_init_100 : decode cX11_init 100 = .ok (.aload_n 0, 1) := by decide +kernel
theorem dX11_init_101 : decode cX11_init 101 = .ok (.getfield 12, 3) := by decide +kernel
theorem dX11_init_104 : decode cX11_init 104 = .ok (.aload_n 0, 1) := by decide +kernel
theorem dX11_init_105 : decode cX11_init 105 = .ok (.getfield 37, 3) := by decide +kernel
theorem dX11_init_108 : decode cX11_init 108 = .ok (.invokespecial 61, 3) := by decide +kernel
theorem dX11_init_111 : decode cX11_init 111 = .ok (.putfield 62, 3) := by decide +kernel
theorem dX11_init_114 : decode cX11_init 114 = .ok (.aload_n 0, 1) := by decide +kernel
theorem dX11_init_115 : decode cX11_init 115 = .ok (.new 66, 3) := by decide +kernel
theorem dX11_init_118 : decode cX11_init 118 = .ok (.dup, 1) := by decide +kernel
theorem dX11_init_119 : decode cX11_init 119 = .ok (.invokespecial 68, 3) := by decide +kernel
theorem dX11_init_122 : decode cX11_init 122 = .ok (.putfield 69, 3) := by decide +kernel
theorem dX11_init_125 : decode cX11_init 125 = .ok (.aload_n 0, 1) := by decide +kernel
theorem dX11_init_126 : decode cX11_init 126 = .ok (.new 73, 3) := by decide +kernel
theorem dX11_init_129 : decode cX11_init 129 = .ok (.dup, 1) := by decide +kernel
theorem dX11_init_130 : decode cX11_init 130 = .ok (.invokespecial 75, 3) := by decide +kernel
theorem dX11_init_133 : decode cX11_init 133 = .ok (.putfield 76, 3) := by decide +kernel
theorem dX11_init_136 : decode cX11_init 136 = .ok (.return_, 1) := by decide +kernel
theorem dX11_office_0 : decode cX11_office 0 = .ok (.aload_n 0, 1) := by decide +kernel
theorem dX11_office_1 : decode cX11_office 1 = .ok (.getfield 12, 3) := by decide +kernel
theorem dX11_office_4 : decode cX11_office 4 = .ok (.iload_n 1, 1) := by decide +kernel
theorem dX11_office_5 : decode cX11_office 5 = .ok (.iload_n 2, 1) := by decide +kernel
theorem dX11_office_6 : decode cX11_office 6 = .ok (.invokevirtual 80, 3) := by decide +kernel
theorem dX11_office_9 : decode cX11_office 9 = .ok (.ireturn, 1) := by decide +kernel
theorem dX11_strap_0 : decode cX11_strap 0 = .ok (.aload_n 0, 1) := by decide +kernel
theorem dX11_strap_1 : decode cX11_strap 1 = .ok (.getfield 12, 3) := by decide +kernel
theorem dX11_strap_4 : decode cX11_strap 4 = .ok (.iload_n 1, 1) := by decide +kernel
theorem dX11_strap_5 : decode cX11_strap 5 = .ok (.iload_n 2, 1) := by decide +kernel
theorem dX11_strap_6 : decode cX11_strap 6 = .ok (.invokevirtual 84, 3) := by decide +kernel
theorem dX11_strap_9 : decode cX11_strap 9 = .ok (.ireturn, 1) := by decide +kernel
theorem dX11_unstrap_0 : decode cX11_unstrap 0 = .ok (.aload_n 0, 1) := by decide +kernel
theorem dX11_unstrap_1 : decode cX11_unstrap 1 = .ok (.getfield 12, 3) := by decide +kernel
theorem dX11_unstrap_4 : decode cX11_unstrap 4 = .ok (.invokevirtual 87, 3) := by decide +kernel
theorem dX11_unstrap_7 : decode cX11_unstrap 7 = .ok (.ireturn, 1) := by decide +kernel
theorem dX11_may_0 : decode cX11_may 0 = .ok (.aload_n 0, 1) := by decide +kernel
theorem dX11_may_1 : decode cX11_may 1 = .ok (.getfield 12, 3) := by decide +kernel
theorem dX11_may_4 : decode cX11_may 4 = .ok (.iload_n 1, 1) := by decide +kernel
theorem dX11_may_5 : decode cX11_may 5 = .ok (.invokevirtual 91, 3) := by decide +kernel
theorem dX11_may_8 : decode cX11_may 8 = .ok (.ifCond .eq 12, 3) := by decide +kernel
theorem dX11_may_11 : decode cX11_may 11 = .ok (.iload_n 2, 1) := by decide +kernel
theorem dX11_may_12 : decode cX11_may 12 = .ok (.iconst 0, 1) := by decide +kernel
theorem dX11_may_13 : decode cX11_may 13 = .ok (.iconst 1, 1) := by decide +kernel
theorem dX11_may_14 : decode cX11_may 14 = .ok (.invokestatic 95, 3) := by decide +kernel
theorem dX11_may_17 : decode cX11_may 17 = .ok (.ifCond .ne 5, 3) := by decide +kernel
theorem dX11_may_20 : decode cX11_may 20 = .ok (.iconst (-1), 1) := by decide +kernel
theorem dX11_may_21 : decode cX11_may 21 = .ok (.ireturn, 1) := by decide +kernel
theorem dX11_may_22 : decode cX11_may 22 = .ok (.iload_n 2, 1) := by decide +kernel
theorem dX11_may_23 : decode cX11_may 23 = .ok (.ifCond .ne 14, 3) := by decide +kernel
theorem dX11_may_26 : decode cX11_may 26 = .ok (.aload_n 0, 1) := by decide +kernel
theorem dX11_may_27 : decode cX11_may 27 = .ok (.getfield 12, 3) := by decide +kernel
theorem dX11_may_30 : decode cX11_may 30 = .ok (.iload_n 1, 1) := by decide +kernel
theorem dX11_may_31 : decode cX11_may 31 = .ok (.invokevirtual 101, 3) := by decide +kernel
theorem dX11_may_34 : decode cX11_may 34 = .ok (.goto 11, 3) := by decide +kernel
theorem dX11_may_37 : decode cX11_may 37 = .ok (.aload_n 0, 1) := by decide +kernel
theorem dX11_may_38 : decode cX11_may 38 = .ok (.getfield 12, 3) := by decide +kernel
theorem dX11_may_41 : decode cX11_may 41 = .ok (.iload_n 1, 1) := by decide +kernel
theorem dX11_may_42 : decode cX11_may 42 = .ok (.invokevirtual 104, 3) := by decide +kernel
theorem dX11_may_45 : decode cX11_may 45 = .ok (.istore_n 3, 1) := by decide +kernel
theorem dX11_may_46 : decode cX11_may 46 = .ok (.iload_n 3, 1) := by decide +kernel
theorem dX11_may_47 : decode cX11_may 47 = .ok (.ifCond .eq 7, 3) := by decide +kernel
theorem dX11_may_50 : decode cX11_may 50 = .ok (.iconst 1, 1) := by decide +kernel
theorem dX11_may_51 : decode cX11_may 51 = .ok (.goto 4, 3) := by decide +kernel
theorem dX11_may_54 : decode cX11_may 54 = .ok (.iconst 0, 1) := by decide +kernel
theorem dX11_may_55 : decode cX11_may 55 = .ok (.ireturn, 1) := by decide +kernel
theorem dX11_proof_0 : decode cX11_proof 0 = .ok (.iload_n 1, 1) := by decide +kernel
theorem dX11_proof_1 : decode cX11_proof 1 = .ok (.iconst 0, 1) := by decide +kernel
theorem dX11_proof_2 : decode cX11_proof 2 = .ok (.iconst 1, 1) := by decide +kernel
theorem dX11_proof_3 : decode cX11_proof 3 = .ok (.invokestatic 95, 3) := by decide +kernel
theorem dX11_proof_6 : decode cX11_proof 6 = .ok (.ifCond .ne 5, 3) := by decide +kernel
theorem dX11_proof_9 : decode cX11_proof 9 = .ok (.iconst (-1), 1) := by decide +kernel
theorem dX11_proof_10 : decode cX11_proof 10 = .ok (.ireturn, 1) := by decide +kernel
theorem dX11_proof_11 : decode cX11_proof 11 = .ok (.iload_n 1, 1) := by decide +kernel
theorem dX11_proof_12 : decode cX11_proof 12 = .ok (.ifCond .ne 13, 3) := by decide +kernel
theorem dX11_proof_15 : decode cX11_proof 15 = .ok (.aload_n 0, 1) := by decide +kernel
theorem dX11_proof_16 : decode cX11_proof 16 = .ok (.getfield 12, 3) := by decide +kernel
theorem dX11_proof_19 : decode cX11_proof 19 = .ok (.invokevirtual 107, 3) := by decide +kernel
theorem dX11_proof_22 : decode cX11_proof 22 = .ok (.goto 10, 3) := by decide +kernel
theorem dX11_proof_25 : decode cX11_proof 25 = .ok (.aload_n 0, 1) := by decide +kernel
theorem dX11_proof_26 : decode cX11_proof 26 = .ok (.getfield 12, 3) := by decide +kernel
theorem dX11_proof_29 : decode cX11_proof 29 = .ok (.invokevirtual 110, 3) := by decide +kernel
theorem dX11_proof_32 : decode cX11_proof 32 = .ok (.ireturn, 1) := by decide +kernel
theorem dX11_rows_0 : decode cX11_rows 0 = .ok (.aload_n 0, 1) := by decide +kernel
theorem dX11_rows_1 : decode cX11_rows 1 = .ok (.getfield 12, 3) := by decide +kernel
theorem dX11_rows_4 : decode cX11_rows 4 = .ok (.invokevirtual 113, 3) := by decide +kernel
theorem dX11_rows_7 : decode cX11_rows 7 = .ok (.ireturn, 1) := by decide +kernel
theorem dX11_need_0 : decode cX11_need 0 = .ok (.aload_n 0, 1) := by decide +kernel
theorem dX11_need_1 : decode cX11_need 1 = .ok (.getfield 12, 3) := by decide +kernel
theorem dX11_need_4 : decode cX11_need 4 = .ok (.invokevirtual 116, 3) := by decide +kernel
theorem dX11_need_7 : decode cX11_need 7 = .ok (.ireturn, 1) := by decide +kernel
theorem dX11_orders_0 : decode cX11_orders 0 = .ok (.aload_n 0, 1) := by decide +kernel
theorem dX11_orders_1 : decode cX11_orders 1 = .ok (.getfield 12, 3) := by decide +kernel
theorem dX11_orders_4 : decode cX11_orders 4 = .ok (.iload_n 1, 1) := by decide +kernel
theorem dX11_orders_5 : decode cX11_orders 5 = .ok (.invokevirtual 119, 3) := by decide +kernel
theorem dX11_orders_8 : decode cX11_orders 8 = .ok (.ireturn, 1) := by decide +kernel
theorem dX11_feed_0 : decode cX11_feed 0 = .ok (.iload_n 1, 1) := by decide +kernel
theorem dX11_feed_1 : decode cX11_feed 1 = .ok (.invokestatic 123, 3) := by decide +kernel
theorem dX11_feed_4 : decode cX11_feed 4 = .ok (.iload_n 2, 1) := by decide +kernel
theorem dX11_feed_5 : decode cX11_feed 5 = .ok (.invokestatic 123, 3) := by decide +kernel
theorem dX11_feed_8 : decode cX11_feed 8 = .ok (.iadd, 1) := by decide +kernel
theorem dX11_feed_9 : decode cX11_feed 9 = .ok (.iload_n 3, 1) := by decide +kernel
theorem dX11_feed_10 : decode cX11_feed 10 = .ok (.invokestatic 123, 3) := by decide +kernel
theorem dX11_feed_13 : decode cX11_feed 13 = .ok (.iadd, 1) := by decide +kernel
theorem dX11_feed_14 : decode cX11_feed 14 = .ok (.iload 4, 2) := by decide +kernel
theorem dX11_feed_16 : decode cX11_feed 16 = .ok (.invokestatic 123, 3) := by decide +kernel
theorem dX11_feed_19 : decode cX11_feed 19 = .ok (.iadd, 1) := by decide +kernel
theorem dX11_feed_20 : decode cX11_feed 20 = .ok (.iload 5, 2) := by decide +kernel
theorem dX11_feed_22 : decode cX11_feed 22 = .ok (.invokestatic 123, 3) := by decide +kernel
theorem dX11_feed_25 : decode cX11_feed 25 = .ok (.iadd, 1) := by decide +kernel
theorem dX11_feed_26 : decode cX11_feed 26 = .ok (.istore 6, 2) := by decide +kernel
theorem dX11_feed_28 : decode cX11_feed 28 = .ok (.aload_n 0, 1) := by decide +kernel
theorem dX11_feed_29 : decode cX11_feed 29 = .ok (.getfield 21, 3) := by decide +kernel
theorem dX11_feed_32 : decode cX11_feed 32 = .ok (.getfield 126, 3) := by decide +kernel
theorem dX11_feed_35 : decode cX11_feed 35 = .ok (.iload 6, 2) := by decide +kernel
theorem dX11_feed_37 : decode cX11_feed 37 = .ok (.iadd, 1) := by decide +kernel
theorem dX11_feed_38 : decode cX11_feed 38 = .ok (.bipush 120, 2) := by decide +kernel
theorem dX11_feed_40 : decode cX11_feed 40 = .ok (.if_icmp .le 5, 3) := by decide +kernel
theorem dX11_feed_43 : decode cX11_feed 43 = .ok (.iconst (-1), 1) := by decide +kernel
theorem dX11_feed_44 : decode cX11_feed 44 = .ok (.ireturn, 1) := by decide +kernel
theorem dX11_feed_45 : decode cX11_feed 45 = .ok (.aload_n 0, 1) := by decide +kernel
theorem dX11_feed_46 : decode cX11_feed 46 = .ok (.getfield 21, 3) := by decide +kernel
theorem dX11_feed_49 : decode cX11_feed 49 = .ok (.iload_n 1, 1) := by decide +kernel
theorem dX11_feed_50 : decode cX11_feed 50 = .ok (.invokevirtual 130, 3) := by decide +kernel
theorem dX11_feed_53 : decode cX11_feed 53 = .ok (.aload_n 0, 1) := by decide +kernel
theorem dX11_feed_54 : decode cX11_feed 54 = .ok (.getfield 21, 3) := by decide +kernel
theorem dX11_feed_57 : decode cX11_feed 57 = .ok (.iload_n 2, 1) := by decide +kernel
theorem dX11_feed_58 : decode cX11_feed 58 = .ok (.invokevirtual 130, 3) := by decide +kernel
theorem dX11_feed_61 : decode cX11_feed 61 = .ok (.aload_n 0, 1) := by decide +kernel
theorem dX11_feed_62 : decode cX11_feed 62 = .ok (.getfield 21, 3) := by decide +kernel
theorem dX11_feed_65 : decode cX11_feed 65 = .ok (.iload_n 3, 1) := by decide +kernel
theorem dX11_feed_66 : decode cX11_feed 66 = .ok (.invokevirtual 130, 3) := by decide +kernel
theorem dX11_feed_69 : decode cX11_feed 69 = .ok (.aload_n 0, 1) := by decide +kernel
theorem dX11_feed_70 : decode cX11_feed 70 = .ok (.getfield 21, 3) := by decide +kernel
theorem dX11_feed_73 : decode cX11_feed 73 = .ok (.iload 4, 2) := by decide +kernel
theorem dX11_feed_75 : decode cX11_feed 75 = .ok (.invokevirtual 130, 3) := by decide +kernel
theorem dX11_feed_78 : decode cX11_feed 78 = .ok (.aload_n 0, 1) := by decide +kernel
theorem dX11_feed_79 : decode cX11_feed 79 = .ok (.getfield 21, 3) := by decide +kernel
theorem dX11_feed_82 : decode cX11_feed 82 = .ok (.iload 5, 2) := by decide +kernel
theorem dX11_feed_84 : decode cX11_feed 84 = .ok (.invokevirtual 130, 3) := by decide +kernel
theorem dX11_feed_87 : decode cX11_feed 87 = .ok (.aload_n 0, 1) := by decide +kernel
theorem dX11_feed_88 : decode cX11_feed 88 = .ok (.getfield 21, 3) := by decide +kernel
theorem dX11_feed_91 : decode cX11_feed 91 = .ok (.getfield 126, 3) := by decide +kernel
theorem dX11_feed_94 : decode cX11_feed 94 = .ok (.ireturn, 1) := by decide +kernel
theorem dX11_end_0 : decode cX11_end 0 = .ok (.iload_n 1, 1) := by decide +kernel
theorem dX11_end_1 : decode cX11_end 1 = .ok (.iconst 0, 1) := by decide +kernel
theorem dX11_end_2 : decode cX11_end 2 = .ok (.aload_n 0, 1) := by decide +kernel
theorem dX11_end_3 : decode cX11_end 3 = .ok (.getfield 21, 3) := by decide +kernel
theorem dX11_end_6 : decode cX11_end 6 = .ok (.getfield 126, 3) := by decide +kernel
theorem dX11_end_9 : decode cX11_end 9 = .ok (.invokestatic 95, 3) := by decide +kernel
theorem dX11_end_12 : decode cX11_end 12 = .ok (.ifCond .ne 5, 3) := by decide +kernel
theorem dX11_end_15 : decode cX11_end 15 = .ok (.iconst 0, 1) := by decide +kernel
theorem dX11_end_16 : decode cX11_end 16 = .ok (.ireturn, 1) := by decide +kernel
theorem dX11_end_17 : decode cX11_end 17 = .ok (.aload_n 0, 1) := by decide +kernel
theorem dX11_end_18 : decode cX11_end 18 = .ok (.getfield 21, 3) := by decide +kernel
theorem dX11_end_21 : decode cX11_end 21 = .ok (.iload_n 1, 1) := by decide +kernel
theorem dX11_end_22 : decode cX11_end 22 = .ok (.putfield 126, 3) := by decide +kernel
theorem dX11_end_25 : decode cX11_end 25 = .ok (.iconst 1, 1) := by decide +kernel
theorem dX11_end_26 : decode cX11_end 26 = .ok (.ireturn, 1) := by decide +kernel
theorem dX11_fault_0 : decode cX11_fault 0 = .ok (.aload_n 0, 1) := by decide +kernel
theorem dX11_fault_1 : decode cX11_fault 1 = .ok (.getfield 28, 3) := by decide +kernel
theorem dX11_fault_4 : decode cX11_fault 4 = .ok (.aload_n 0, 1) := by decide +kernel
theorem dX11_fault_5 : decode cX11_fault 5 = .ok (.getfield 21, 3) := by decide +kernel
theorem dX11_fault_8 : decode cX11_fault 8 = .ok (.invokevirtual 133, 3) := by decide +kernel
theorem dX11_fault_11 : decode cX11_fault 11 = .ok (.ireturn, 1) := by decide +kernel
theorem dX11_law_0 : decode cX11_law 0 = .ok (.aload_n 0, 1) := by decide +kernel
theorem dX11_law_1 : decode cX11_law 1 = .ok (.getfield 28, 3) := by decide +kernel
theorem dX11_law_4 : decode cX11_law 4 = .ok (.aload_n 0, 1) := by decide +kernel
theorem dX11_law_5 : decode cX11_law 5 = .ok (.getfield 21, 3) := by decide +kernel
theorem dX11_law_8 : decode cX11_law 8 = .ok (.invokevirtual 137, 3) := by decide +kernel
theorem dX11_law_11 : decode cX11_law 11 = .ok (.ireturn, 1) := by decide +kernel
theorem dX11_use_0 : decode cX11_use 0 = .ok (.iload_n 1, 1) := by decide +kernel
theorem dX11_use_1 : decode cX11_use 1 = .ok (.iconst (-1), 1) := by decide +kernel
theorem dX11_use_2 : decode cX11_use 2 = .ok (.if_icmp .eq 16, 3) := by decide +kernel
theorem dX11_use_5 : decode cX11_use 5 = .ok (.aload_n 0, 1) := by decide +kernel
theorem dX11_use_6 : decode cX11_use 6 = .ok (.getfield 28, 3) := by decide +kernel
theorem dX11_use_9 : decode cX11_use 9 = .ok (.iload_n 1, 1) := by decide +kernel
theorem dX11_use_10 : decode cX11_use 10 = .ok (.invokevirtual 140, 3) := by decide +kernel
theorem dX11_use_13 : decode cX11_use 13 = .ok (.ifCond .ne 5, 3) := by decide +kernel
theorem dX11_use_16 : decode cX11_use 16 = .ok (.iconst 0, 1) := by decide +kernel
theorem dX11_use_17 : decode cX11_use 17 = .ok (.ireturn, 1) := by decide +kernel
theorem dX11_use_18 : decode cX11_use 18 = .ok (.aload_n 0, 1) := by decide +kernel
theorem dX11_use_19 : decode cX11_use 19 = .ok (.getfield 28, 3) := by decide +kernel
theorem dX11_use_22 : decode cX11_use 22 = .ok (.iload_n 1, 1) := by decide +kernel
theorem dX11_use_23 : decode cX11_use 23 = .ok (.putfield 143, 3) := by decide +kernel
theorem dX11_use_26 : decode cX11_use 26 = .ok (.iconst 0, 1) := by decide +kernel
theorem dX11_use_27 : decode cX11_use 27 = .ok (.istore_n 2, 1) := by decide +kernel
theorem dX11_use_28 : decode cX11_use 28 = .ok (.iload_n 2, 1) := by decide +kernel
theorem dX11_use_29 : decode cX11_use 29 = .ok (.aload_n 0, 1) := by decide +kernel
theorem dX11_use_30 : decode cX11_use 30 = .ok (.getfield 37, 3) := by decide +kernel
theorem dX11_use_33 : decode cX11_use 33 = .ok (.getfield 146, 3) := by decide +kernel
theorem dX11_use_36 : decode cX11_use 36 = .ok (.if_icmp .ge 14, 3) := by decide +kernel
theorem dX11_use_39 : decode cX11_use 39 = .ok (.aload_n 0, 1) := by decide +kernel
theorem dX11_use_40 : decode cX11_use 40 = .ok (.iload_n 2, 1) := by decide +kernel
theorem dX11_use_41 : decode cX11_use 41 = .ok (.invokevirtual 149, 3) := by decide +kernel
theorem dX11_use_44 : decode cX11_use 44 = .ok (.iinc 2 1, 3) := by decide +kernel
theorem dX11_use_47 : decode cX11_use 47 = .ok (.goto (-19), 3) := by decide +kernel
theorem dX11_use_50 : decode cX11_use 50 = .ok (.iconst 1, 1) := by decide +kernel
theorem dX11_use_51 : decode cX11_use 51 = .ok (.ireturn, 1) := by decide +kernel
theorem dX11_machine_0 : decode cX11_machine 0 = .ok (.aload_n 0, 1) := by decide +kernel
theorem dX11_machine_1 : decode cX11_machine 1 = .ok (.getfield 37, 3) := by decide +kernel
theorem dX11_machine_4 : decode cX11_machine 4 = .ok (.iload_n 1, 1) := by decide +kernel
theorem dX11_machine_5 : decode cX11_machine 5 = .ok (.iload_n 2, 1) := by decide +kernel
theorem dX11_machine_6 : decode cX11_machine 6 = .ok (.iload_n 3, 1) := by decide +kernel
theorem dX11_machine_7 : decode cX11_machine 7 = .ok (.iload 4, 2) := by decide +kernel
theorem dX11_machine_9 : decode cX11_machine 9 = .ok (.iload 5, 2) := by decide +kernel
theorem dX11_machine_11 : decode cX11_machine 11 = .ok (.invokevirtual 152, 3) := by decide +kernel
theorem dX11_machine_14 : decode cX11_machine 14 = .ok (.istore 6, 2) := by decide +kernel
theorem dX11_machine_16 : decode cX11_machine 16 = .ok (.aload_n 0, 1) := by decide +kernel
theorem dX11_machine_17 : decode cX11_machine 17 = .ok (.iload 6, 2) := by decide +kernel
theorem dX11_machine_19 : decode cX11_machine 19 = .ok (.invokevirtual 149, 3) := by decide +kernel
theorem dX11_machine_22 : decode cX11_machine 22 = .ok (.iload 6, 2) := by decide +kernel
theorem dX11_machine_24 : decode cX11_machine 24 = .ok (.ireturn, 1) := by decide +kernel
theorem dX11_settleVoters_0 : decode cX11_settleVoters 0 = .ok (.aload_n 0, 1) := by decide +kernel
theorem dX11_settleVoters_1 : decode cX11_settleVoters 1 = .ok (.getfield 37, 3) := by decide +kernel
theorem dX11_settleVoters_4 : decode cX11_settleVoters 4 = .ok (.iload_n 1, 1) := by decide +kernel
theorem dX11_settleVoters_5 : decode cX11_settleVoters 5 = .ok (.invokevirtual 155, 3) := by decide +kernel
theorem dX11_settleVoters_8 : decode cX11_settleVoters 8 = .ok (.ifCond .eq 40, 3) := by decide +kernel
theorem dX11_settleVoters_11 : decode cX11_settleVoters 11 = .ok (.iload_n 1, 1) := by decide +kernel
theorem dX11_settleVoters_12 : decode cX11_settleVoters 12 = .ok (.iconst 5, 1) := by decide +kernel
theorem dX11_settleVoters_13 : decode cX11_settleVoters 13 = .ok (.imul, 1) := by decide +kernel
theorem dX11_settleVoters_14 : decode cX11_settleVoters 14 = .ok (.istore_n 2, 1) := by decide +kernel
theorem dX11_settleVoters_15 : decode cX11_settleVoters 15 = .ok (.aload_n 0, 1) := by decide +kernel
theorem dX11_settleVoters_16 : decode cX11_settleVoters 16 = .ok (.getfield 37, 3) := by decide +kernel
theorem dX11_settleVoters_19 : decode cX11_settleVoters 19 = .ok (.getfield 158, 3) := by decide +kernel
theorem dX11_settleVoters_22 : decode cX11_settleVoters 22 = .ok (.iload_n 1, 1) := by decide +kernel
theorem dX11_settleVoters_23 : decode cX11_settleVoters 23 = .ok (.aload_n 0, 1) := by decide +kernel
theorem dX11_settleVoters_24 : decode cX11_settleVoters 24 = .ok (.getfield 28, 3) := by decide +kernel
theorem dX11_settleVoters_27 : decode cX11_settleVoters 27 = .ok (.aload_n 0, 1) := by decide +kernel
theorem dX11_settleVoters_28 : decode cX11_settleVoters 28 = .ok (.getfield 28, 3) := by decide +kernel
theorem dX11_settleVoters_31 : decode cX11_settleVoters 31 = .ok (.getfield 143, 3) := by decide +kernel
theorem dX11_settleVoters_34 : decode cX11_settleVoters 34 = .ok (.aload_n 0, 1) := by decide +kernel
theorem dX11_settleVoters_35 : decode cX11_settleVoters 35 = .ok (.getfield 37, 3) := by decide +kernel
theorem dX11_settleVoters_38 : decode cX11_settleVoters 38 = .ok (.getfield 162, 3) := by decide +kernel
theorem dX11_settleVoters_41 : decode cX11_settleVoters 41 = .ok (.iload_n 2, 1) := by decide +kernel
theorem dX11_settleVoters_42 : decode cX11_settleVoters 42 = .ok (.invokevirtual 165, 3) := by decide +kernel
theorem dX11_settleVoters_45 : decode cX11_settleVoters 45 = .ok (.invokestatic 169, 3) := by decide +kernel
theorem dX11_settleVoters_48 : decode cX11_settleVoters 48 = .ok (.return_, 1) := by decide +kernel
theorem dX11_voters_0 : decode cX11_voters 0 = .ok (.aload_n 0, 1) := by decide +kernel
theorem dX11_voters_1 : decode cX11_voters 1 = .ok (.getfield 37, 3) := by decide +kernel
theorem dX11_voters_4 : decode cX11_voters 4 = .ok (.iload_n 1, 1) := by decide +kernel
theorem dX11_voters_5 : decode cX11_voters 5 = .ok (.invokevirtual 155, 3) := by decide +kernel
theorem dX11_voters_8 : decode cX11_voters 8 = .ok (.ifCond .eq 17, 3) := by decide +kernel
theorem dX11_voters_11 : decode cX11_voters 11 = .ok (.aload_n 0, 1) := by decide +kernel
theorem dX11_voters_12 : decode cX11_voters 12 = .ok (.getfield 37, 3) := by decide +kernel
theorem dX11_voters_15 : decode cX11_voters 15 = .ok (.getfield 158, 3) := by decide +kernel
theorem dX11_voters_18 : decode cX11_voters 18 = .ok (.iload_n 1, 1) := by decide +kernel
theorem dX11_voters_19 : decode cX11_voters 19 = .ok (.invokestatic 173, 3) := by decide +kernel
theorem dX11_voters_22 : decode cX11_voters 22 = .ok (.goto 4, 3) := by decide +kernel
theorem dX11_voters_25 : decode cX11_voters 25 = .ok (.iconst (-1), 1) := by decide +kernel
theorem dX11_voters_26 : decode cX11_voters 26 = .ok (.ireturn, 1) := by decide +kernel
theorem dX11_agree_0 : decode cX11_agree 0 = .ok (.aload_n 0, 1) := by decide +kernel
theorem dX11_agree_1 : decode cX11_agree 1 = .ok (.getfield 37, 3) := by decide +kernel
theorem dX11_agree_4 : decode cX11_agree 4 = .ok (.iload_n 1, 1) := by decide +kernel
theorem dX11_agree_5 : decode cX11_agree 5 = .ok (.invokevirtual 155, 3) := by decide +kernel
theorem dX11_agree_8 : decode cX11_agree 8 = .ok (.ifCond .ne 5, 3) := by decide +kernel
theorem dX11_agree_11 : decode cX11_agree 11 = .ok (.iconst (-1), 1) := by decide +kernel
theorem dX11_agree_12 : decode cX11_agree 12 = .ok (.ireturn, 1) := by decide +kernel
theorem dX11_agree_13 : decode cX11_agree 13 = .ok (.aload_n 0, 1) := by decide +kernel
theorem dX11_agree_14 : decode cX11_agree 14 = .ok (.getfield 28, 3) := by decide +kernel
theorem dX11_agree_17 : decode cX11_agree 17 = .ok (.aload_n 0, 1) := by decide +kernel
theorem dX11_agree_18 : decode cX11_agree 18 = .ok (.getfield 37, 3) := by decide +kernel
theorem dX11_agree_21 : decode cX11_agree 21 = .ok (.getfield 162, 3) := by decide +kernel
theorem dX11_agree_24 : decode cX11_agree 24 = .ok (.iload_n 1, 1) := by decide +kernel
theorem dX11_agree_25 : decode cX11_agree 25 = .ok (.iconst 5, 1) := by decide +kernel
theorem dX11_agree_26 : decode cX11_agree 26 = .ok (.imul, 1) := by decide +kernel
theorem dX11_agree_27 : decode cX11_agree 27 = .ok (.invokevirtual 177, 3) := by decide +kernel
theorem dX11_agree_30 : decode cX11_agree 30 = .ok (.ireturn, 1) := by decide +kernel
theorem dX11_show_0 : decode cX11_show 0 = .ok (.aload_n 0, 1) := by decide +kernel
theorem dX11_show_1 : decode cX11_show 1 = .ok (.getfield 37, 3) := by decide +kernel
theorem dX11_show_4 : decode cX11_show 4 = .ok (.iload_n 1, 1) := by decide +kernel
theorem dX11_show_5 : decode cX11_show 5 = .ok (.iload_n 2, 1) := by decide +kernel
theorem dX11_show_6 : decode cX11_show 6 = .ok (.iload_n 3, 1) := by decide +kernel
theorem dX11_show_7 : decode cX11_show 7 = .ok (.invokevirtual 180, 3) := by decide +kernel
theorem dX11_show_10 : decode cX11_show 10 = .ok (.ireturn, 1) := by decide +kernel
theorem dX11_trouble_0 : decode cX11_trouble 0 = .ok (.aload_n 0, 1) := by decide +kernel
theorem dX11_trouble_1 : decode cX11_trouble 1 = .ok (.getfield 37, 3) := by decide +kernel
theorem dX11_trouble_4 : decode cX11_trouble 4 = .ok (.iload_n 1, 1) := by decide +kernel
theorem dX11_trouble_5 : decode cX11_trouble 5 = .ok (.iload_n 2, 1) := by decide +kernel
theorem dX11_trouble_6 : decode cX11_trouble 6 = .ok (.iload_n 3, 1) := by decide +kernel
theorem dX11_trouble_7 : decode cX11_trouble 7 = .ok (.iload 4, 2) := by decide +kernel
theorem dX11_trouble_9 : decode cX11_trouble 9 = .ok (.invokevirtual 183, 3) := by decide +kernel
theorem dX11_trouble_12 : decode cX11_trouble 12 = .ok (.ireturn, 1) := by decide +kernel
theorem dX11_fitting_0 : decode cX11_fitting 0 = .ok (.aload_n 0, 1) := by decide +kernel
theorem dX11_fitting_1 : decode cX11_fitting 1 = .ok (.getfield 37, 3) := by decide +kernel
theorem dX11_fitting_4 : decode cX11_fitting 4 = .ok (.iload_n 1, 1) := by decide +kernel
theorem dX11_fitting_5 : decode cX11_fitting 5 = .ok (.invokevirtual 155, 3) := by decide +kernel
theorem dX11_fitting_8 : decode cX11_fitting 8 = .ok (.ifCond .ne 5, 3) := by decide +kernel
theorem dX11_fitting_11 : decode cX11_fitting 11 = .ok (.iconst (-1), 1) := by decide +kernel
theorem dX11_fitting_12 : decode cX11_fitting 12 = .ok (.ireturn, 1) := by decide +kernel
theorem dX11_fitting_13 : decode cX11_fitting 13 = .ok (.iload_n 2, 1) := by decide +kernel
theorem dX11_fitting_14 : decode cX11_fitting 14 = .ok (.iconst (-1), 1) := by decide +kernel
theorem dX11_fitting_15 : decode cX11_fitting 15 = .ok (.if_icmp .ne 14, 3) := by decide +kernel
theorem dX11_fitting_18 : decode cX11_fitting 18 = .ok (.aload_n 0, 1) := by decide +kernel
theorem dX11_fitting_19 : decode cX11_fitting 19 = .ok (.getfield 46, 3) := by decide +kernel
theorem dX11_fitting_22 : decode cX11_fitting 22 = .ok (.iload_n 1, 1) := by decide +kernel
theorem dX11_fitting_23 : decode cX11_fitting 23 = .ok (.invokevirtual 187, 3) := by decide +kernel
theorem dX11_fitting_26 : decode cX11_fitting 26 = .ok (.goto 12, 3) := by decide +kernel
theorem dX11_fitting_29 : decode cX11_fitting 29 = .ok (.aload_n 0, 1) := by decide +kernel
theorem dX11_fitting_30 : decode cX11_fitting 30 = .ok (.getfield 46, 3) := by decide +kernel
theorem dX11_fitting_33 : decode cX11_fitting 33 = .ok (.iload_n 1, 1) := by decide +kernel
theorem dX11_fitting_34 : decode cX11_fitting 34 = .ok (.iload_n 2, 1) := by decide +kernel
theorem dX11_fitting_35 : decode cX11_fitting 35 = .ok (.invokevirtual 190, 3) := by decide +kernel
theorem dX11_fitting_38 : decode cX11_fitting 38 = .ok (.ireturn, 1) := by decide +kernel
theorem dX11_sets_0 : decode cX11_sets 0 = .ok (.aload_n 0, 1) := by decide +kernel
theorem dX11_sets_1 : decode cX11_sets 1 = .ok (.getfield 37, 3) := by decide +kernel
theorem dX11_sets_4 : decode cX11_sets 4 = .ok (.iload_n 1, 1) := by decide +kernel
theorem dX11_sets_5 : decode cX11_sets 5 = .ok (.invokevirtual 155, 3) := by decide +kernel
theorem dX11_sets_8 : decode cX11_sets 8 = .ok (.ifCond .eq 12, 3) := by decide +kernel
theorem dX11_sets_11 : decode cX11_sets 11 = .ok (.iload_n 2, 1) := by decide +kernel
theorem dX11_sets_12 : decode cX11_sets 12 = .ok (.iconst 0, 1) := by decide +kernel
theorem dX11_sets_13 : decode cX11_sets 13 = .ok (.iconst 2, 1) := by decide +kernel
theorem dX11_sets_14 : decode cX11_sets 14 = .ok (.invokestatic 95, 3) := by decide +kernel
theorem dX11_sets_17 : decode cX11_sets 17 = .ok (.ifCond .ne 5, 3) := by decide +kernel
theorem dX11_sets_20 : decode cX11_sets 20 = .ok (.iconst (-1), 1) := by decide +kernel
theorem dX11_sets_21 : decode cX11_sets 21 = .ok (.ireturn, 1) := by decide +kernel
theorem dX11_sets_22 : decode cX11_sets 22 = .ok (.iload_n 2, 1) := by decide +kernel
theorem dX11_sets_23 : decode cX11_sets 23 = .ok (.ifCond .ne 12, 3) := by decide +kernel
theorem dX11_sets_26 : decode cX11_sets 26 = .ok (.aload_n 0, 1) := by decide +kernel
theorem dX11_sets_27 : decode cX11_sets 27 = .ok (.getfield 46, 3) := by decide +kernel
theorem dX11_sets_30 : decode cX11_sets 30 = .ok (.iload_n 1, 1) := by decide +kernel
theorem dX11_sets_31 : decode cX11_sets 31 = .ok (.invokevirtual 193, 3) := by decide +kernel
theorem dX11_sets_34 : decode cX11_sets 34 = .ok (.ireturn, 1) := by decide +kernel
theorem dX11_sets_35 : decode cX11_sets 35 = .ok (.iload_n 2, 1) := by decide +kernel
theorem dX11_sets_36 : decode cX11_sets 36 = .ok (.iconst 1, 1) := by decide +kernel
theorem dX11_sets_37 : decode cX11_sets 37 = .ok (.if_icmp .ne 14, 3) := by decide +kernel
theorem dX11_sets_40 : decode cX11_sets 40 = .ok (.aload_n 0, 1) := by decide +kernel
theorem dX11_sets_41 : decode cX11_sets 41 = .ok (.getfield 46, 3) := by decide +kernel
theorem dX11_sets_44 : decode cX11_sets 44 = .ok (.iload_n 1, 1) := by decide +kernel
theorem dX11_sets_45 : decode cX11_sets 45 = .ok (.invokevirtual 196, 3) := by decide +kernel
theorem dX11_sets_48 : decode cX11_sets 48 = .ok (.goto 11, 3) := by decide +kernel
theorem dX11_sets_51 : decode cX11_sets 51 = .ok (.aload_n 0, 1) := by decide +kernel
theorem dX11_sets_52 : decode cX11_sets 52 = .ok (.getfield 46, 3) := by decide +kernel
theorem dX11_sets_55 : decode cX11_sets 55 = .ok (.iload_n 1, 1) := by decide +kernel
theorem dX11_sets_56 : decode cX11_sets 56 = .ok (.invokevirtual 199, 3) := by decide +kernel
theorem dX11_sets_59 : decode cX11_sets 59 = .ok (.ireturn, 1) := by decide +kernel
theorem dX11_span_0 : decode cX11_span 0 = .ok (.aload_n 0, 1) := by decide +kernel
theorem dX11_span_1 : decode cX11_span 1 = .ok (.getfield 37, 3) := by decide +kernel
theorem dX11_span_4 : decode cX11_span 4 = .ok (.iload_n 1, 1) := by decide +kernel
theorem dX11_span_5 : decode cX11_span 5 = .ok (.invokevirtual 155, 3) := by decide +kernel
theorem dX11_span_8 : decode cX11_span 8 = .ok (.ifCond .eq 24, 3) := by decide +kernel
theorem dX11_span_11 : decode cX11_span 11 = .ok (.aload_n 0, 1) := by decide +kernel
theorem dX11_span_12 : decode cX11_span 12 = .ok (.getfield 12, 3) := by decide +kernel
theorem dX11_span_15 : decode cX11_span 15 = .ok (.iload_n 2, 1) := by decide +kernel
theorem dX11_span_16 : decode cX11_span 16 = .ok (.invokevirtual 202, 3) := by decide +kernel
theorem dX11_span_19 : decode cX11_span 19 = .ok (.iconst (-1), 1) := by decide +kernel
theorem dX11_span_20 : decode cX11_span 20 = .ok (.if_icmp .eq 12, 3) := by decide +kernel
theorem dX11_span_23 : decode cX11_span 23 = .ok (.iload_n 3, 1) := by decide +kernel
theorem dX11_span_24 : decode cX11_span 24 = .ok (.iconst 0, 1) := by decide +kernel
theorem dX11_span_25 : decode cX11_span 25 = .ok (.iconst 1, 1) := by decide +kernel
theorem dX11_span_26 : decode cX11_span 26 = .ok (.invokestatic 95, 3) := by decide +kernel
theorem dX11_span_29 : decode cX11_span 29 = .ok (.ifCond .ne 5, 3) := by decide +kernel
theorem dX11_span_32 : decode cX11_span 32 = .ok (.iconst (-1), 1) := by decide +kernel
theorem dX11_span_33 : decode cX11_span 33 = .ok (.ireturn, 1) := by decide +kernel
theorem dX11_span_34 : decode cX11_span 34 = .ok (.aload_n 0, 1) := by decide +kernel
theorem dX11_span_35 : decode cX11_span 35 = .ok (.getfield 55, 3) := by decide +kernel
theorem dX11_span_38 : decode cX11_span 38 = .ok (.iload_n 1, 1) := by decide +kernel
theorem dX11_span_39 : decode cX11_span 39 = .ok (.iload_n 2, 1) := by decide +kernel
theorem dX11_span_40 : decode cX11_span 40 = .ok (.iload_n 3, 1) := by decide +kernel
theorem dX11_span_41 : decode cX11_span 41 = .ok (.invokevirtual 205, 3) := by decide +kernel
theorem dX11_span_44 : decode cX11_span 44 = .ok (.ireturn, 1) := by decide +kernel
theorem dX11_open_0 : decode cX11_open 0 = .ok (.aload_n 0, 1) := by decide +kernel
theorem dX11_open_1 : decode cX11_open 1 = .ok (.getfield 37, 3) := by decide +kernel
theorem dX11_open_4 : decode cX11_open 4 = .ok (.iload_n 1, 1) := by decide +kernel
theorem dX11_open_5 : decode cX11_open 5 = .ok (.invokevirtual 155, 3) := by decide +kernel
theorem dX11_open_8 : decode cX11_open 8 = .ok (.ifCond .eq 20, 3) := by decide +kernel
theorem dX11_open_11 : decode cX11_open 11 = .ok (.iload_n 2, 1) := by decide +kernel
theorem dX11_open_12 : decode cX11_open 12 = .ok (.iconst (-1), 1) := by decide +kernel
theorem dX11_open_13 : decode cX11_open 13 = .ok (.if_icmp .eq 17, 3) := by decide +kernel
theorem dX11_open_16 : decode cX11_open 16 = .ok (.aload_n 0, 1) := by decide +kernel
theorem dX11_open_17 : decode cX11_open 17 = .ok (.getfield 46, 3) := by decide +kernel
theorem dX11_open_20 : decode cX11_open 20 = .ok (.iload_n 1, 1) := by decide +kernel
theorem dX11_open_21 : decode cX11_open 21 = .ok (.iload_n 2, 1) := by decide +kernel
theorem dX11_open_22 : decode cX11_open 22 = .ok (.invokevirtual 209, 3) := by decide +kernel
theorem dX11_open_25 : decode cX11_open 25 = .ok (.ifCond .ne 5, 3) := by decide +kernel
theorem dX11_open_28 : decode cX11_open 28 = .ok (.iconst 0, 1) := by decide +kernel
theorem dX11_open_29 : decode cX11_open 29 = .ok (.ireturn, 1) := by decide +kernel
theorem dX11_open_30 : decode cX11_open 30 = .ok (.aload_n 0, 1) := by decide +kernel
theorem dX11_open_31 : decode cX11_open 31 = .ok (.getfield 37, 3) := by decide +kernel
theorem dX11_open_34 : decode cX11_open 34 = .ok (.getfield 213, 3) := by decide +kernel
theorem dX11_open_37 : decode cX11_open 37 = .ok (.iload_n 1, 1) := by decide +kernel
theorem dX11_open_38 : decode cX11_open 38 = .ok (.iload_n 2, 1) := by decide +kernel
theorem dX11_open_39 : decode cX11_open 39 = .ok (.invokestatic 169, 3) := by decide +kernel
theorem dX11_open_42 : decode cX11_open 42 = .ok (.iconst 1, 1) := by decide +kernel
theorem dX11_open_43 : decode cX11_open 43 = .ok (.ireturn, 1) := by decide +kernel
theorem dX11_total_0 : decode cX11_total 0 = .ok (.aload_n 0, 1) := by decide +kernel
theorem dX11_total_1 : decode cX11_total 1 = .ok (.getfield 12, 3) := by decide +kernel
theorem dX11_total_4 : decode cX11_total 4 = .ok (.iload_n 1, 1) := by decide +kernel
theorem dX11_total_5 : decode cX11_total 5 = .ok (.invokevirtual 202, 3) := by decide +kernel
theorem dX11_total_8 : decode cX11_total 8 = .ok (.iconst (-1), 1) := by decide +kernel
theorem dX11_total_9 : decode cX11_total 9 = .ok (.if_icmp .eq 12, 3) := by decide +kernel
theorem dX11_total_12 : decode cX11_total 12 = .ok (.iload_n 2, 1) := by decide +kernel
theorem dX11_total_13 : decode cX11_total 13 = .ok (.iconst 0, 1) := by decide +kernel
theorem dX11_total_14 : decode cX11_total 14 = .ok (.iconst 1, 1) := by decide +kernel
theorem dX11_total_15 : decode cX11_total 15 = .ok (.invokestatic 95, 3) := by decide +kernel
theorem dX11_total_18 : decode cX11_total 18 = .ok (.ifCond .ne 5, 3) := by decide +kernel
theorem dX11_total_21 : decode cX11_total 21 = .ok (.iconst (-1), 1) := by decide +kernel
theorem dX11_total_22 : decode cX11_total 22 = .ok (.ireturn, 1) := by decide +kernel
theorem dX11_total_23 : decode cX11_total 23 = .ok (.aload_n 0, 1) := by decide +kernel
theorem dX11_total_24 : decode cX11_total 24 = .ok (.getfield 55, 3) := by decide +kernel
theorem dX11_total_27 : decode cX11_total 27 = .ok (.iload_n 1, 1) := by decide +kernel
theorem dX11_total_28 : decode cX11_total 28 = .ok (.iload_n 2, 1) := by decide +kernel
theorem dX11_total_29 : decode cX11_total 29 = .ok (.invokevirtual 216, 3) := by decide +kernel
theorem dX11_total_32 : decode cX11_total 32 = .ok (.ireturn, 1) := by decide +kernel
theorem dX11_ahead_0 : decode cX11_ahead 0 = .ok (.aload_n 0, 1) := by decide +kernel
theorem dX11_ahead_1 : decode cX11_ahead 1 = .ok (.getfield 55, 3) := by decide +kernel
theorem dX11_ahead_4 : decode cX11_ahead 4 = .ok (.iload_n 1, 1) := by decide +kernel
theorem dX11_ahead_5 : decode cX11_ahead 5 = .ok (.iload_n 2, 1) := by decide +kernel
theorem dX11_ahead_6 : decode cX11_ahead 6 = .ok (.invokevirtual 219, 3) := by decide +kernel
theorem dX11_ahead_9 : decode cX11_ahead 9 = .ok (.ireturn, 1) := by decide +kernel
theorem dX11_wins_0 : decode cX11_wins 0 = .ok (.aload_n 0, 1) := by decide +kernel
theorem dX11_wins_1 : decode cX11_wins 1 = .ok (.getfield 12, 3) := by decide +kernel
theorem dX11_wins_4 : decode cX11_wins 4 = .ok (.iload_n 1, 1) := by decide +kernel
theorem dX11_wins_5 : decode cX11_wins 5 = .ok (.invokevirtual 222, 3) := by decide +kernel
theorem dX11_wins_8 : decode cX11_wins 8 = .ok (.ifCond .eq 14, 3) := by decide +kernel
theorem dX11_wins_11 : decode cX11_wins 11 = .ok (.aload_n 0, 1) := by decide +kernel
theorem dX11_wins_12 : decode cX11_wins 12 = .ok (.getfield 55, 3) := by decide +kernel
theorem dX11_wins_15 : decode cX11_wins 15 = .ok (.iload_n 1, 1) := by decide +kernel
theorem dX11_wins_16 : decode cX11_wins 16 = .ok (.invokevirtual 225, 3) := by decide +kernel
theorem dX11_wins_19 : decode cX11_wins 19 = .ok (.goto 4, 3) := by decide +kernel
theorem dX11_wins_22 : decode cX11_wins 22 = .ok (.iconst (-1), 1) := by decide +kernel
theorem dX11_wins_23 : decode cX11_wins 23 = .ok (.ireturn, 1) := by decide +kernel
theorem dX11_cost_0 : decode cX11_cost 0 = .ok (.aload_n 0, 1) := by decide +kernel
theorem dX11_cost_1 : decode cX11_cost 1 = .ok (.getfield 37, 3) := by decide +kernel
theorem dX11_cost_4 : decode cX11_cost 4 = .ok (.iload_n 1, 1) := by decide +kernel
theorem dX11_cost_5 : decode cX11_cost 5 = .ok (.invokevirtual 155, 3) := by decide +kernel
theorem dX11_cost_8 : decode cX11_cost 8 = .ok (.ifCond .eq 13, 3) := by decide +kernel
theorem dX11_cost_11 : decode cX11_cost 11 = .ok (.iload_n 2, 1) := by decide +kernel
theorem dX11_cost_12 : decode cX11_cost 12 = .ok (.iconst 1, 1) := by decide +kernel
theorem dX11_cost_13 : decode cX11_cost 13 = .ok (.bipush 50, 2) := by decide +kernel
theorem dX11_cost_15 : decode cX11_cost 15 = .ok (.invokestatic 95, 3) := by decide +kernel
theorem dX11_cost_18 : decode cX11_cost 18 = .ok (.ifCond .ne 5, 3) := by decide +kernel
theorem dX11_cost_21 : decode cX11_cost 21 = .ok (.iconst 0, 1) := by decide +kernel
theorem dX11_cost_22 : decode cX11_cost 22 = .ok (.ireturn, 1) := by decide +kernel
theorem dX11_cost_23 : decode cX11_cost 23 = .ok (.aload_n 0, 1) := by decide +kernel
theorem dX11_cost_24 : decode cX11_cost 24 = .ok (.getfield 37, 3) := by decide +kernel
theorem dX11_cost_27 : decode cX11_cost 27 = .ok (.getfield 228, 3) := by decide +kernel
theorem dX11_cost_30 : decode cX11_cost 30 = .ok (.iload_n 1, 1) := by decide +kernel
theorem dX11_cost_31 : decode cX11_cost 31 = .ok (.iload_n 2, 1) := by decide +kernel
theorem dX11_cost_32 : decode cX11_cost 32 = .ok (.invokestatic 169, 3) := by decide +kernel
theorem dX11_cost_35 : decode cX11_cost 35 = .ok (.iconst 1, 1) := by decide +kernel
theorem dX11_cost_36 : decode cX11_cost 36 = .ok (.ireturn, 1) := by decide +kernel
theorem dX11_till_0 : decode cX11_till 0 = .ok (.aload_n 0, 1) := by decide +kernel
theorem dX11_till_1 : decode cX11_till 1 = .ok (.getfield 12, 3) := by decide +kernel
theorem dX11_till_4 : decode cX11_till 4 = .ok (.iload_n 1, 1) := by decide +kernel
theorem dX11_till_5 : decode cX11_till 5 = .ok (.invokevirtual 202, 3) := by decide +kernel
theorem dX11_till_8 : decode cX11_till 8 = .ok (.iconst (-1), 1) := by decide +kernel
theorem dX11_till_9 : decode cX11_till 9 = .ok (.if_icmp .eq 12, 3) := by decide +kernel
theorem dX11_till_12 : decode cX11_till 12 = .ok (.iload_n 2, 1) := by decide +kernel
theorem dX11_till_13 : decode cX11_till 13 = .ok (.iconst 0, 1) := by decide +kernel
theorem dX11_till_14 : decode cX11_till 14 = .ok (.iconst 1, 1) := by decide +kernel
theorem dX11_till_15 : decode cX11_till 15 = .ok (.invokestatic 95, 3) := by decide +kernel
theorem dX11_till_18 : decode cX11_till 18 = .ok (.ifCond .ne 5, 3) := by decide +kernel
theorem dX11_till_21 : decode cX11_till 21 = .ok (.iconst (-1), 1) := by decide +kernel
theorem dX11_till_22 : decode cX11_till 22 = .ok (.ireturn, 1) := by decide +kernel
theorem dX11_till_23 : decode cX11_till 23 = .ok (.aload_n 0, 1) := by decide +kernel
theorem dX11_till_24 : decode cX11_till 24 = .ok (.getfield 55, 3) := by decide +kernel
theorem dX11_till_27 : decode cX11_till 27 = .ok (.iload_n 1, 1) := by decide +kernel
theorem dX11_till_28 : decode cX11_till 28 = .ok (.invokevirtual 231, 3) := by decide +kernel
theorem dX11_till_31 : decode cX11_till 31 = .ok (.istore_n 3, 1) := by decide +kernel
theorem dX11_till_32 : decode cX11_till 32 = .ok (.iload_n 3, 1) := by decide +kernel
theorem dX11_till_33 : decode cX11_till 33 = .ok (.iconst (-1), 1) := by decide +kernel
theorem dX11_till_34 : decode cX11_till 34 = .ok (.if_icmp .eq 7, 3) := by decide +kernel
theorem dX11_till_37 : decode cX11_till 37 = .ok (.iload_n 2, 1) := by decide +kernel
theorem dX11_till_38 : decode cX11_till 38 = .ok (.ifCond .ne 7, 3) := by decide +kernel
theorem dX11_till_41 : decode cX11_till 41 = .ok (.iload_n 3, 1) := by decide +kernel
theorem dX11_till_42 : decode cX11_till 42 = .ok (.goto 11, 3) := by decide +kernel
theorem dX11_till_45 : decode cX11_till 45 = .ok (.aload_n 0, 1) := by decide +kernel
theorem dX11_till_46 : decode cX11_till 46 = .ok (.getfield 55, 3) := by decide +kernel
theorem dX11_till_49 : decode cX11_till 49 = .ok (.iload_n 3, 1) := by decide +kernel
theorem dX11_till_50 : decode cX11_till 50 = .ok (.invokevirtual 234, 3) := by decide +kernel
theorem dX11_till_53 : decode cX11_till 53 = .ok (.ireturn, 1) := by decide +kernel
theorem dX11_test_0 : decode cX11_test 0 = .ok (.aload_n 0, 1) := by decide +kernel
theorem dX11_test_1 : decode cX11_test 1 = .ok (.getfield 62, 3) := by decide +kernel
theorem dX11_test_4 : decode cX11_test 4 = .ok (.iload_n 1, 1) := by decide +kernel
theorem dX11_test_5 : decode cX11_test 5 = .ok (.iload_n 2, 1) := by decide +kernel
theorem dX11_test_6 : decode cX11_test 6 = .ok (.invokevirtual 237, 3) := by decide +kernel
theorem dX11_test_9 : decode cX11_test 9 = .ok (.ireturn, 1) := by decide +kernel
theorem dX11_sees_0 : decode cX11_sees 0 = .ok (.aload_n 0, 1) := by decide +kernel
theorem dX11_sees_1 : decode cX11_sees 1 = .ok (.getfield 62, 3) := by decide +kernel
theorem dX11_sees_4 : decode cX11_sees 4 = .ok (.iload_n 1, 1) := by decide +kernel
theorem dX11_sees_5 : decode cX11_sees 5 = .ok (.invokevirtual 239, 3) := by decide +kernel
theorem dX11_sees_8 : decode cX11_sees 8 = .ok (.ifCond .eq 14, 3) := by decide +kernel
theorem dX11_sees_11 : decode cX11_sees 11 = .ok (.aload_n 0, 1) := by decide +kernel
theorem dX11_sees_12 : decode cX11_sees 12 = .ok (.getfield 37, 3) := by decide +kernel
theorem dX11_sees_15 : decode cX11_sees 15 = .ok (.iload_n 2, 1) := by decide +kernel
theorem dX11_sees_16 : decode cX11_sees 16 = .ok (.invokevirtual 155, 3) := by decide +kernel
theorem dX11_sees_19 : decode cX11_sees 19 = .ok (.ifCond .ne 5, 3) := by decide +kernel
theorem dX11_sees_22 : decode cX11_sees 22 = .ok (.iconst (-1), 1) := by decide +kernel
theorem dX11_sees_23 : decode cX11_sees 23 = .ok (.ireturn, 1) := by decide +kernel
theorem dX11_sees_24 : decode cX11_sees 24 = .ok (.aload_n 0, 1) := by decide +kernel
theorem dX11_sees_25 : decode cX11_sees 25 = .ok (.getfield 62, 3) := by decide +kernel
theorem dX11_sees_28 : decode cX11_sees 28 = .ok (.iload_n 1, 1) := by decide +kernel
theorem dX11_sees_29 : decode cX11_sees 29 = .ok (.iload_n 2, 1) := by decide +kernel
theorem dX11_sees_30 : decode cX11_sees 30 = .ok (.invokevirtual 242, 3) := by decide +kernel
theorem dX11_sees_33 : decode cX11_sees 33 = .ok (.ireturn, 1) := by decide +kernel
theorem dX11_cover_0 : decode cX11_cover 0 = .ok (.aload_n 0, 1) := by decide +kernel
theorem dX11_cover_1 : decode cX11_cover 1 = .ok (.getfield 37, 3) := by decide +kernel
theorem dX11_cover_4 : decode cX11_cover 4 = .ok (.iload_n 1, 1) := by decide +kernel
theorem dX11_cover_5 : decode cX11_cover 5 = .ok (.invokevirtual 155, 3) := by decide +kernel
theorem dX11_cover_8 : decode cX11_cover 8 = .ok (.ifCond .eq 14, 3) := by decide +kernel
theorem dX11_cover_11 : decode cX11_cover 11 = .ok (.aload_n 0, 1) := by decide +kernel
theorem dX11_cover_12 : decode cX11_cover 12 = .ok (.getfield 62, 3) := by decide +kernel
theorem dX11_cover_15 : decode cX11_cover 15 = .ok (.iload_n 1, 1) := by decide +kernel
theorem dX11_cover_16 : decode cX11_cover 16 = .ok (.invokevirtual 245, 3) := by decide +kernel
theorem dX11_cover_19 : decode cX11_cover 19 = .ok (.goto 4, 3) := by decide +kernel
theorem dX11_cover_22 : decode cX11_cover 22 = .ok (.iconst (-1), 1) := by decide +kernel
theorem dX11_cover_23 : decode cX11_cover 23 = .ok (.ireturn, 1) := by decide +kernel
theorem dX11_name_0 : decode cX11_name 0 = .ok (.aload_n 0, 1) := by decide +kernel
theorem dX11_name_1 : decode cX11_name 1 = .ok (.getfield 12, 3) := by decide +kernel
theorem dX11_name_4 : decode cX11_name 4 = .ok (.iload_n 1, 1) := by decide +kernel
theorem dX11_name_5 : decode cX11_name 5 = .ok (.invokevirtual 222, 3) := by decide +kernel
theorem dX11_name_8 : decode cX11_name 8 = .ok (.ifCond .eq 13, 3) := by decide +kernel
theorem dX11_name_11 : decode cX11_name 11 = .ok (.iload 4, 2) := by decide +kernel
theorem dX11_name_13 : decode cX11_name 13 = .ok (.iconst 0, 1) := by decide +kernel
theorem dX11_name_14 : decode cX11_name 14 = .ok (.iconst 5, 1) := by decide +kernel
theorem dX11_name_15 : decode cX11_name 15 = .ok (.invokestatic 95, 3) := by decide +kernel
theorem dX11_name_18 : decode cX11_name 18 = .ok (.ifCond .ne 5, 3) := by decide +kernel
theorem dX11_name_21 : decode cX11_name 21 = .ok (.iconst (-1), 1) := by decide +kernel
theorem dX11_name_22 : decode cX11_name 22 = .ok (.ireturn, 1) := by decide +kernel
theorem dX11_name_23 : decode cX11_name 23 = .ok (.aload_n 0, 1) := by decide +kernel
theorem dX11_name_24 : decode cX11_name 24 = .ok (.getfield 12, 3) := by decide +kernel
theorem dX11_name_27 : decode cX11_name 27 = .ok (.iload_n 1, 1) := by decide +kernel
theorem dX11_name_28 : decode cX11_name 28 = .ok (.lload_n 2, 1) := by decide +kernel
theorem dX11_name_29 : decode cX11_name 29 = .ok (.invokevirtual 248, 3) := by decide +kernel
theorem dX11_name_32 : decode cX11_name 32 = .ok (.istore 6, 2) := by decide +kernel
theorem dX11_name_34 : decode cX11_name 34 = .ok (.iload 5, 2) := by decide +kernel
theorem dX11_name_36 : decode cX11_name 36 = .ok (.iconst 0, 1) := by decide +kernel
theorem dX11_name_37 : decode cX11_name 37 = .ok (.iload 6, 2) := by decide +kernel
theorem dX11_name_39 : decode cX11_name 39 = .ok (.iconst 1, 1) := by decide +kernel
theorem dX11_name_40 : decode cX11_name 40 = .ok (.isub, 1) := by decide +kernel
theorem dX11_name_41 : decode cX11_name 41 = .ok (.invokestatic 95, 3) := by decide +kernel
theorem dX11_name_44 : decode cX11_name 44 = .ok (.ifCond .eq 20, 3) := by decide +kernel
theorem dX11_name_47 : decode cX11_name 47 = .ok (.aload_n 0, 1) := by decide +kernel
theorem dX11_name_48 : decode cX11_name 48 = .ok (.getfield 12, 3) := by decide +kernel
theorem dX11_name_51 : decode cX11_name 51 = .ok (.iload 5, 2) := by decide +kernel
theorem dX11_name_53 : decode cX11_name 53 = .ok (.iload 4, 2) := by decide +kernel
theorem dX11_name_55 : decode cX11_name 55 = .ok (.isub, 1) := by decide +kernel
theorem dX11_name_56 : decode cX11_name 56 = .ok (.iload 6, 2) := by decide +kernel
theorem dX11_name_58 : decode cX11_name 58 = .ok (.invokevirtual 252, 3) := by decide +kernel
theorem dX11_name_61 : decode cX11_name 61 = .ok (.goto 4, 3) := by decide +kernel
theorem dX11_name_64 : decode cX11_name 64 = .ok (.iconst (-1), 1) := by decide +kernel
theorem dX11_name_65 : decode cX11_name 65 = .ok (.ireturn, 1) := by decide +kernel
theorem dX11_first_0 : decode cX11_first 0 = .ok (.aload_n 0, 1) := by decide +kernel
theorem dX11_first_1 : decode cX11_first 1 = .ok (.getfield 12, 3) := by decide +kernel
theorem dX11_first_4 : decode cX11_first 4 = .ok (.iload_n 1, 1) := by decide +kernel
theorem dX11_first_5 : decode cX11_first 5 = .ok (.invokevirtual 202, 3) := by decide +kernel
theorem dX11_first_8 : decode cX11_first 8 = .ok (.istore 5, 2) := by decide +kernel
theorem dX11_first_10 : decode cX11_first 10 = .ok (.iload 5, 2) := by decide +kernel
theorem dX11_first_12 : decode cX11_first 12 = .ok (.iconst (-1), 1) := by decide +kernel
theorem dX11_first_13 : decode cX11_first 13 = .ok (.if_icmp .eq 14, 3) := by decide +kernel
theorem dX11_first_16 : decode cX11_first 16 = .ok (.iload 4, 2) := by decide +kernel
theorem dX11_first_18 : decode cX11_first 18 = .ok (.iconst 1, 1) := by decide +kernel
theorem dX11_first_19 : decode cX11_first 19 = .ok (.bipush 100, 2) := by decide +kernel
theorem dX11_first_21 : decode cX11_first 21 = .ok (.invokestatic 95, 3) := by decide +kernel
theorem dX11_first_24 : decode cX11_first 24 = .ok (.ifCond .ne 5, 3) := by decide +kernel
theorem dX11_first_27 : decode cX11_first 27 = .ok (.iconst (-1), 1) := by decide +kernel
theorem dX11_first_28 : decode cX11_first 28 = .ok (.ireturn, 1) := by decide +kernel
theorem dX11_first_29 : decode cX11_first 29 = .ok (.aload_n 0, 1) := by decide +kernel
theorem dX11_first_30 : decode cX11_first 30 = .ok (.getfield 12, 3) := by decide +kernel
theorem dX11_first_33 : decode cX11_first 33 = .ok (.iload 5, 2) := by decide +kernel
theorem dX11_first_35 : decode cX11_first 35 = .ok (.lload_n 2, 1) := by decide +kernel
theorem dX11_first_36 : decode cX11_first 36 = .ok (.invokevirtual 248, 3) := by decide +kernel
theorem dX11_first_39 : decode cX11_first 39 = .ok (.istore 6, 2) := by decide +kernel
theorem dX11_first_41 : decode cX11_first 41 = .ok (.iconst 0, 1) := by decide +kernel
theorem dX11_first_42 : decode cX11_first 42 = .ok (.istore 7, 2) := by decide +kernel
theorem dX11_first_44 : decode cX11_first 44 = .ok (.iconst 0, 1) := by decide +kernel
theorem dX11_first_45 : decode cX11_first 45 = .ok (.istore 8, 2) := by decide +kernel
theorem dX11_first_47 : decode cX11_first 47 = .ok (.iload 8, 2) := by decide +kernel
theorem dX11_first_49 : decode cX11_first 49 = .ok (.iload 4, 2) := by decide +kernel
theorem dX11_first_51 : decode cX11_first 51 = .ok (.if_icmp .ge 28, 3) := by decide +kernel
theorem dX11_first_54 : decode cX11_first 54 = .ok (.aload_n 0, 1) := by decide +kernel
theorem dX11_first_55 : decode cX11_first 55 = .ok (.getfield 12, 3) := by decide +kernel
theorem dX11_first_58 : decode cX11_first 58 = .ok (.iload 8, 2) := by decide +kernel
theorem dX11_first_60 : decode cX11_first 60 = .ok (.ineg, 1) := by decide +kernel
theorem dX11_first_61 : decode cX11_first 61 = .ok (.iload 6, 2) := by decide +kernel
theorem dX11_first_63 : decode cX11_first 63 = .ok (.invokevirtual 252, 3) := by decide +kernel
theorem dX11_first_66 : decode cX11_first 66 = .ok (.iload_n 1, 1) := by decide +kernel
theorem dX11_first_67 : decode cX11_first 67 = .ok (.if_icmp .ne 6, 3) := by decide +kernel
theorem dX11_first_70 : decode cX11_first 70 = .ok (.iinc 7 1, 3) := by decide +kernel
theorem dX11_first_73 : decode cX11_first 73 = .ok (.iinc 8 1, 3) := by decide +kernel
theorem dX11_first_76 : decode cX11_first 76 = .ok (.goto (-29), 3) := by decide +kernel
theorem dX11_first_79 : decode cX11_first 79 = .ok (.iload 7, 2) := by decide +kernel
theorem dX11_first_81 : decode cX11_first 81 = .ok (.ireturn, 1) := by decide +kernel
theorem dX11_known_0 : decode cX11_known 0 = .ok (.aload_n 0, 1) := by decide +kernel
theorem dX11_known_1 : decode cX11_known 1 = .ok (.getfield 69, 3) := by decide +kernel
theorem dX11_known_4 : decode cX11_known 4 = .ok (.aload_n 0, 1) := by decide +kernel
theorem dX11_known_5 : decode cX11_known 5 = .ok (.getfield 21, 3) := by decide +kernel
theorem dX11_known_8 : decode cX11_known 8 = .ok (.invokevirtual 255, 3) := by decide +kernel
theorem dX11_known_11 : decode cX11_known 11 = .ok (.ireturn, 1) := by decide +kernel
theorem dX11_read_0 : decode cX11_read 0 = .ok (.aload_n 0, 1) := by decide +kernel
theorem dX11_read_1 : decode cX11_read 1 = .ok (.getfield 69, 3) := by decide +kernel
theorem dX11_read_4 : decode cX11_read 4 = .ok (.iload_n 1, 1) := by decide +kernel
theorem dX11_read_5 : decode cX11_read 5 = .ok (.iload_n 2, 1) := by decide +kernel
theorem dX11_read_6 : decode cX11_read 6 = .ok (.aload_n 0, 1) := by decide +kernel
theorem dX11_read_7 : decode cX11_read 7 = .ok (.getfield 21, 3) := by decide +kernel
theorem dX11_read_10 : decode cX11_read 10 = .ok (.invokevirtual 258, 3) := by decide +kernel
theorem dX11_read_13 : decode cX11_read 13 = .ok (.ireturn, 1) := by decide +kernel
theorem dX11_limit_0 : decode cX11_limit 0 = .ok (.iload_n 1, 1) := by decide +kernel
theorem dX11_limit_1 : decode cX11_limit 1 = .ok (.iconst 0, 1) := by decide +kernel
theorem dX11_limit_2 : decode cX11_limit 2 = .ok (.bipush 8, 2) := by decide +kernel
theorem dX11_limit_4 : decode cX11_limit 4 = .ok (.invokestatic 95, 3) := by decide +kernel
theorem dX11_limit_7 : decode cX11_limit 7 = .ok (.ifCond .ne 5, 3) := by decide +kernel
theorem dX11_limit_10 : decode cX11_limit 10 = .ok (.iconst 0, 1) := by decide +kernel
theorem dX11_limit_11 : decode cX11_limit 11 = .ok (.ireturn, 1) := by decide +kernel
theorem dX11_limit_12 : decode cX11_limit 12 = .ok (.aload_n 0, 1) := by decide +kernel
theorem dX11_limit_13 : decode cX11_limit 13 = .ok (.getfield 69, 3) := by decide +kernel
theorem dX11_limit_16 : decode cX11_limit 16 = .ok (.iload_n 1, 1) := by decide +kernel
theorem dX11_limit_17 : decode cX11_limit 17 = .ok (.putfield 262, 3) := by decide +kernel
theorem dX11_limit_20 : decode cX11_limit 20 = .ok (.iconst 1, 1) := by decide +kernel
theorem dX11_limit_21 : decode cX11_limit 21 = .ok (.ireturn, 1) := by decide +kernel
theorem dX11_far_0 : decode cX11_far 0 = .ok (.aload_n 0, 1) := by decide +kernel
theorem dX11_far_1 : decode cX11_far 1 = .ok (.getfield 69, 3) := by decide +kernel
theorem dX11_far_4 : decode cX11_far 4 = .ok (.iload_n 1, 1) := by decide +kernel
theorem dX11_far_5 : decode cX11_far 5 = .ok (.iload_n 2, 1) := by decide +kernel
theorem dX11_far_6 : decode cX11_far 6 = .ok (.invokevirtual 265, 3) := by decide +kernel
theorem dX11_far_9 : decode cX11_far 9 = .ok (.ifCond .eq 14, 3) := by decide +kernel
theorem dX11_far_12 : decode cX11_far 12 = .ok (.aload_n 0, 1) := by decide +kernel
theorem dX11_far_13 : decode cX11_far 13 = .ok (.getfield 69, 3) := by decide +kernel
theorem dX11_far_16 : decode cX11_far 16 = .ok (.iload_n 3, 1) := by decide +kernel
theorem dX11_far_17 : decode cX11_far 17 = .ok (.invokevirtual 268, 3) := by decide +kernel
theorem dX11_far_20 : decode cX11_far 20 = .ok (.ifCond .ne 5, 3) := by decide +kernel
theorem dX11_far_23 : decode cX11_far 23 = .ok (.iconst (-1), 1) := by decide +kernel
theorem dX11_far_24 : decode cX11_far 24 = .ok (.ireturn, 1) := by decide +kernel
theorem dX11_far_25 : decode cX11_far 25 = .ok (.aload_n 0, 1) := by decide +kernel
theorem dX11_far_26 : decode cX11_far 26 = .ok (.getfield 69, 3) := by decide +kernel
theorem dX11_far_29 : decode cX11_far 29 = .ok (.iload_n 1, 1) := by decide +kernel
theorem dX11_far_30 : decode cX11_far 30 = .ok (.iload_n 2, 1) := by decide +kernel
theorem dX11_far_31 : decode cX11_far 31 = .ok (.iload_n 3, 1) := by decide +kernel
theorem dX11_far_32 : decode cX11_far 32 = .ok (.invokevirtual 271, 3) := by decide +kernel
theorem dX11_far_35 : decode cX11_far 35 = .ok (.ireturn, 1) := by decide +kernel
theorem dX11_goes_0 : decode cX11_goes 0 = .ok (.aload_n 0, 1) := by decide +kernel
theorem dX11_goes_1 : decode cX11_goes 1 = .ok (.getfield 69, 3) := by decide +kernel
theorem dX11_goes_4 : decode cX11_goes 4 = .ok (.iload_n 1, 1) := by decide +kernel
theorem dX11_goes_5 : decode cX11_goes 5 = .ok (.iload_n 2, 1) := by decide +kernel
theorem dX11_goes_6 : decode cX11_goes 6 = .ok (.invokevirtual 265, 3) := by decide +kernel
theorem dX11_goes_9 : decode cX11_goes 9 = .ok (.ifCond .eq 15, 3) := by decide +kernel
theorem dX11_goes_12 : decode cX11_goes 12 = .ok (.aload_n 0, 1) := by decide +kernel
theorem dX11_goes_13 : decode cX11_goes 13 = .ok (.getfield 69, 3) := by decide +kernel
theorem dX11_goes_16 : decode cX11_goes 16 = .ok (.iload_n 1, 1) := by decide +kernel
theorem dX11_goes_17 : decode cX11_goes 17 = .ok (.iload_n 2, 1) := by decide +kernel
theorem dX11_goes_18 : decode cX11_goes 18 = .ok (.invokevirtual 274, 3) := by decide +kernel
theorem dX11_goes_21 : decode cX11_goes 21 = .ok (.goto 4, 3) := by decide +kernel
theorem dX11_goes_24 : decode cX11_goes 24 = .ok (.iconst (-1), 1) := by decide +kernel
theorem dX11_goes_25 : decode cX11_goes 25 = .ok (.ireturn, 1) := by decide +kernel
theorem dX11_agrees_0 : decode cX11_agrees 0 = .ok (.aload_n 0, 1) := by decide +kernel
theorem dX11_agrees_1 : decode cX11_agrees 1 = .ok (.getfield 69, 3) := by decide +kernel
theorem dX11_agrees_4 : decode cX11_agrees 4 = .ok (.iload_n 1, 1) := by decide +kernel
theorem dX11_agrees_5 : decode cX11_agrees 5 = .ok (.invokevirtual 277, 3) := by decide +kernel
theorem dX11_agrees_8 : decode cX11_agrees 8 = .ok (.ireturn, 1) := by decide +kernel
theorem dX11_papers_0 : decode cX11_papers 0 = .ok (.iload_n 1, 1) := by decide +kernel
theorem dX11_papers_1 : decode cX11_papers 1 = .ok (.iconst 0, 1) := by decide +kernel
theorem dX11_papers_2 : decode cX11_papers 2 = .ok (.iconst 3, 1) := by decide +kernel
theorem dX11_papers_3 : decode cX11_papers 3 = .ok (.invokestatic 95, 3) := by decide +kernel
theorem dX11_papers_6 : decode cX11_papers 6 = .ok (.ifCond .eq 14, 3) := by decide +kernel
theorem dX11_papers_9 : decode cX11_papers 9 = .ok (.aload_n 0, 1) := by decide +kernel
theorem dX11_papers_10 : decode cX11_papers 10 = .ok (.getfield 69, 3) := by decide +kernel
theorem dX11_papers_13 : decode cX11_papers 13 = .ok (.iload_n 1, 1) := by decide +kernel
theorem dX11_papers_14 : decode cX11_papers 14 = .ok (.invokevirtual 280, 3) := by decide +kernel
theorem dX11_papers_17 : decode cX11_papers 17 = .ok (.goto 4, 3) := by decide +kernel
theorem dX11_papers_20 : decode cX11_papers 20 = .ok (.iconst (-1), 1) := by decide +kernel
theorem dX11_papers_21 : decode cX11_papers 21 = .ok (.ireturn, 1) := by decide +kernel
theorem dX11_writtenFor_0 : decode cX11_writtenFor 0 = .ok (.aload_n 0, 1) := by decide +kernel
theorem dX11_writtenFor_1 : decode cX11_writtenFor 1 = .ok (.getfield 69, 3) := by decide +kernel
theorem dX11_writtenFor_4 : decode cX11_writtenFor 4 = .ok (.iload_n 1, 1) := by decide +kernel
theorem dX11_writtenFor_5 : decode cX11_writtenFor 5 = .ok (.invokevirtual 268, 3) := by decide +kernel
theorem dX11_writtenFor_8 : decode cX11_writtenFor 8 = .ok (.ifCond .eq 12, 3) := by decide +kernel
theorem dX11_writtenFor_11 : decode cX11_writtenFor 11 = .ok (.iload_n 2, 1) := by decide +kernel
theorem dX11_writtenFor_12 : decode cX11_writtenFor 12 = .ok (.iconst 0, 1) := by decide +kernel
theorem dX11_writtenFor_13 : decode cX11_writtenFor 13 = .ok (.iconst 1, 1) := by decide +kernel
theorem dX11_writtenFor_14 : decode cX11_writtenFor 14 = .ok (.invokestatic 95, 3) := by decide +kernel
theorem dX11_writtenFor_17 : decode cX11_writtenFor 17 = .ok (.ifCond .ne 5, 3) := by decide +kernel
theorem dX11_writtenFor_20 : decode cX11_writtenFor 20 = .ok (.iconst (-1), 1) := by decide +kernel
theorem dX11_writtenFor_21 : decode cX11_writtenFor 21 = .ok (.ireturn, 1) := by decide +kernel
theorem dX11_writtenFor_22 : decode cX11_writtenFor 22 = .ok (.iload_n 2, 1) := by decide +kernel
theorem dX11_writtenFor_23 : decode cX11_writtenFor 23 = .ok (.ifCond .ne 14, 3) := by decide +kernel
theorem dX11_writtenFor_26 : decode cX11_writtenFor 26 = .ok (.aload_n 0, 1) := by decide +kernel
theorem dX11_writtenFor_27 : decode cX11_writtenFor 27 = .ok (.getfield 69, 3) := by decide +kernel
theorem dX11_writtenFor_30 : decode cX11_writtenFor 30 = .ok (.iload_n 1, 1) := by decide +kernel
theorem dX11_writtenFor_31 : decode cX11_writtenFor 31 = .ok (.invokevirtual 281, 3) := by decide +kernel
theorem dX11_writtenFor_34 : decode cX11_writtenFor 34 = .ok (.goto 11, 3) := by decide +kernel
theorem dX11_writtenFor_37 : decode cX11_writtenFor 37 = .ok (.aload_n 0, 1) := by decide +kernel
theorem dX11_writtenFor_38 : decode cX11_writtenFor 38 = .ok (.getfield 69, 3) := by decide +kernel
theorem dX11_writtenFor_41 : decode cX11_writtenFor 41 = .ok (.iload_n 1, 1) := by decide +kernel
theorem dX11_writtenFor_42 : decode cX11_writtenFor 42 = .ok (.invokevirtual 284, 3) := by decide +kernel
theorem dX11_writtenFor_45 : decode cX11_writtenFor 45 = .ok (.ireturn, 1) := by decide +kernel
theorem dX11_elected_0 : decode cX11_elected 0 = .ok (.aload_n 0, 1) := by decide +kernel
theorem dX11_elected_1 : decode cX11_elected 1 = .ok (.getfield 69, 3) := by decide +kernel
theorem dX11_elected_4 : decode cX11_elected 4 = .ok (.invokevirtual 287, 3) := by decide +kernel
theorem dX11_elected_7 : decode cX11_elected 7 = .ok (.ireturn, 1) := by decide +kernel
theorem dX11_absent_0 : decode cX11_absent 0 = .ok (.aload_n 0, 1) := by decide +kernel
theorem dX11_absent_1 : decode cX11_absent 1 = .ok (.getfield 55, 3) := by decide +kernel
theorem dX11_absent_4 : decode cX11_absent 4 = .ok (.iload_n 1, 1) := by decide +kernel
theorem dX11_absent_5 : decode cX11_absent 5 = .ok (.iload_n 2, 1) := by decide +kernel
theorem dX11_absent_6 : decode cX11_absent 6 = .ok (.iload_n 3, 1) := by decide +kernel
theorem dX11_absent_7 : decode cX11_absent 7 = .ok (.invokevirtual 290, 3) := by decide +kernel
theorem dX11_absent_10 : decode cX11_absent 10 = .ok (.ireturn, 1) := by decide +kernel
theorem dX11_joinedAhead_0 : decode cX11_joinedAhead 0 = .ok (.aload_n 0, 1) := by decide +kernel
theorem dX11_joinedAhead_1 : decode cX11_joinedAhead 1 = .ok (.getfield 55, 3) := by decide +kernel
theorem dX11_joinedAhead_4 : decode cX11_joinedAhead 4 = .ok (.iload_n 1, 1) := by decide +kernel
theorem dX11_joinedAhead_5 : decode cX11_joinedAhead 5 = .ok (.iload_n 2, 1) := by decide +kernel
theorem dX11_joinedAhead_6 : decode cX11_joinedAhead 6 = .ok (.invokevirtual 219, 3) := by decide +kernel
theorem dX11_joinedAhead_9 : decode cX11_joinedAhead 9 = .ok (.istore_n 3, 1) := by decide +kernel
theorem dX11_joinedAhead_10 : decode cX11_joinedAhead 10 = .ok (.iload_n 3, 1) := by decide +kernel
theorem dX11_joinedAhead_11 : decode cX11_joinedAhead 11 = .ok (.ldc_w 293, 3) := by decide +kernel
theorem dX11_joinedAhead_14 : decode cX11_joinedAhead 14 = .ok (.if_icmp .ne 9, 3) := by decide +kernel
theorem dX11_joinedAhead_17 : decode cX11_joinedAhead 17 = .ok (.ldc_w 293, 3) := by decide +kernel
theorem dX11_joinedAhead_20 : decode cX11_joinedAhead 20 = .ok (.goto 22, 3) := by decide +kernel
theorem dX11_joinedAhead_23 : decode cX11_joinedAhead 23 = .ok (.iload_n 3, 1) := by decide +kernel
theorem dX11_joinedAhead_24 : decode cX11_joinedAhead 24 = .ok (.aload_n 0, 1) := by decide +kernel
theorem dX11_joinedAhead_25 : decode cX11_joinedAhead 25 = .ok (.getfield 55, 3) := by decide +kernel
theorem dX11_joinedAhead_28 : decode cX11_joinedAhead 28 = .ok (.iload_n 1, 1) := by decide +kernel
theorem dX11_joinedAhead_29 : decode cX11_joinedAhead 29 = .ok (.invokevirtual 294, 3) := by decide +kernel
theorem dX11_joinedAhead_32 : decode cX11_joinedAhead 32 = .ok (.iadd, 1) := by decide +kernel
theorem dX11_joinedAhead_33 : decode cX11_joinedAhead 33 = .ok (.aload_n 0, 1) := by decide +kernel
theorem dX11_joinedAhead_34 : decode cX11_joinedAhead 34 = .ok (.getfield 55, 3) := by decide +kernel
theorem dX11_joinedAhead_37 : decode cX11_joinedAhead 37 = .ok (.iload_n 2, 1) := by decide +kernel
theorem dX11_joinedAhead_38 : decode cX11_joinedAhead 38 = .ok (.invokevirtual 297, 3) := by decide +kernel
theorem dX11_joinedAhead_41 : decode cX11_joinedAhead 41 = .ok (.isub, 1) := by decide +kernel
theorem dX11_joinedAhead_42 : decode cX11_joinedAhead 42 = .ok (.ireturn, 1) := by decide +kernel
theorem dX11_event_0 : decode cX11_event 0 = .ok (.aload_n 0, 1) := by decide +kernel
theorem dX11_event_1 : decode cX11_event 1 = .ok (.getfield 37, 3) := by decide +kernel
theorem dX11_event_4 : decode cX11_event 4 = .ok (.iload_n 1, 1) := by decide +kernel
theorem dX11_event_5 : decode cX11_event 5 = .ok (.invokevirtual 155, 3) := by decide +kernel
theorem dX11_event_8 : decode cX11_event 8 = .ok (.ifCond .eq 18, 3) := by decide +kernel
theorem dX11_event_11 : decode cX11_event 11 = .ok (.aload_n 0, 1) := by decide +kernel
theorem dX11_event_12 : decode cX11_event 12 = .ok (.getfield 76, 3) := by decide +kernel
theorem dX11_event_15 : decode cX11_event 15 = .ok (.iload_n 1, 1) := by decide +kernel
theorem dX11_event_16 : decode cX11_event 16 = .ok (.iload_n 2, 1) := by decide +kernel
theorem dX11_event_17 : decode cX11_event 17 = .ok (.iload_n 3, 1) := by decide +kernel
theorem dX11_event_18 : decode cX11_event 18 = .ok (.iload 4, 2) := by decide +kernel
theorem dX11_event_20 : decode cX11_event 20 = .ok (.invokevirtual 300, 3) := by decide +kernel
theorem dX11_event_23 : decode cX11_event 23 = .ok (.goto 4, 3) := by decide +kernel
theorem dX11_event_26 : decode cX11_event 26 = .ok (.iconst (-1), 1) := by decide +kernel
theorem dX11_event_27 : decode cX11_event 27 = .ok (.ireturn, 1) := by decide +kernel
theorem dX11_badOnes_0 : decode cX11_badOnes 0 = .ok (.aload_n 0, 1) := by decide +kernel
theorem dX11_badOnes_1 : decode cX11_badOnes 1 = .ok (.getfield 37, 3) := by decide +kernel
theorem dX11_badOnes_4 : decode cX11_badOnes 4 = .ok (.iload_n 1, 1) := by decide +kernel
theorem dX11_badOnes_5 : decode cX11_badOnes 5 = .ok (.invokevirtual 155, 3) := by decide +kernel
theorem dX11_badOnes_8 : decode cX11_badOnes 8 = .ok (.ifCond .eq 14, 3) := by decide +kernel
theorem dX11_badOnes_11 : decode cX11_badOnes 11 = .ok (.aload_n 0, 1) := by decide +kernel
theorem dX11_badOnes_12 : decode cX11_badOnes 12 = .ok (.getfield 76, 3) := by decide +kernel
theorem dX11_badOnes_15 : decode cX11_badOnes 15 = .ok (.iload_n 1, 1) := by decide +kernel
theorem dX11_badOnes_16 : decode cX11_badOnes 16 = .ok (.invokevirtual 302, 3) := by decide +kernel
theorem dX11_badOnes_19 : decode cX11_badOnes 19 = .ok (.goto 4, 3) := by decide +kernel
theorem dX11_badOnes_22 : decode cX11_badOnes 22 = .ok (.iconst (-1), 1) := by decide +kernel
theorem dX11_badOnes_23 : decode cX11_badOnes 23 = .ok (.ireturn, 1) := by decide +kernel
theorem dX11_exposed_0 : decode cX11_exposed 0 = .ok (.aload_n 0, 1) := by decide +kernel
theorem dX11_exposed_1 : decode cX11_exposed 1 = .ok (.getfield 37, 3) := by decide +kernel
theorem dX11_exposed_4 : decode cX11_exposed 4 = .ok (.iload_n 1, 1) := by decide +kernel
theorem dX11_exposed_5 : decode cX11_exposed 5 = .ok (.invokevirtual 155, 3) := by decide +kernel
theorem dX11_exposed_8 : decode cX11_exposed 8 = .ok (.ifCond .eq 11, 3) := by decide +kernel
theorem dX11_exposed_11 : decode cX11_exposed 11 = .ok (.iload_n 2, 1) := by decide +kernel
theorem dX11_exposed_12 : decode cX11_exposed 12 = .ok (.iload_n 3, 1) := by decide +kernel
theorem dX11_exposed_13 : decode cX11_exposed 13 = .ok (.invokestatic 305, 3) := by decide +kernel
theorem dX11_exposed_16 : decode cX11_exposed 16 = .ok (.ifCond .ne 5, 3) := by decide +kernel
theorem dX11_exposed_19 : decode cX11_exposed 19 = .ok (.iconst (-1), 1) := by decide +kernel
theorem dX11_exposed_20 : decode cX11_exposed 20 = .ok (.ireturn, 1) := by decide +kernel
theorem dX11_exposed_21 : decode cX11_exposed 21 = .ok (.aload_n 0, 1) := by decide +kernel
theorem dX11_exposed_22 : decode cX11_exposed 22 = .ok (.getfield 76, 3) := by decide +kernel
theorem dX11_exposed_25 : decode cX11_exposed 25 = .ok (.iload_n 1, 1) := by decide +kernel
theorem dX11_exposed_26 : decode cX11_exposed 26 = .ok (.iconst (-1), 1) := by decide +kernel
theorem dX11_exposed_27 : decode cX11_exposed 27 = .ok (.iload_n 2, 1) := by decide +kernel
theorem dX11_exposed_28 : decode cX11_exposed 28 = .ok (.iload_n 3, 1) := by decide +kernel
theorem dX11_exposed_29 : decode cX11_exposed 29 = .ok (.invokevirtual 308, 3) := by decide +kernel
theorem dX11_exposed_32 : decode cX11_exposed 32 = .ok (.ireturn, 1) := by decide +kernel
theorem dX11_placeAt_0 : decode cX11_placeAt 0 = .ok (.aload_n 0, 1) := by decide +kernel
theorem dX11_placeAt_1 : decode cX11_placeAt 1 = .ok (.getfield 37, 3) := by decide +kernel
theorem dX11_placeAt_4 : decode cX11_placeAt 4 = .ok (.iload_n 1, 1) := by decide +kernel
theorem dX11_placeAt_5 : decode cX11_placeAt 5 = .ok (.invokevirtual 155, 3) := by decide +kernel
theorem dX11_placeAt_8 : decode cX11_placeAt 8 = .ok (.ifCond .eq 10, 3) := by decide +kernel
theorem dX11_placeAt_11 : decode cX11_placeAt 11 = .ok (.iload_n 2, 1) := by decide +kernel
theorem dX11_placeAt_12 : decode cX11_placeAt 12 = .ok (.invokestatic 311, 3) := by decide +kernel
theorem dX11_placeAt_15 : decode cX11_placeAt 15 = .ok (.ifCond .ne 5, 3) := by decide +kernel
theorem dX11_placeAt_18 : decode cX11_placeAt 18 = .ok (.iconst (-1), 1) := by decide +kernel
theorem dX11_placeAt_19 : decode cX11_placeAt 19 = .ok (.ireturn, 1) := by decide +kernel
theorem dX11_placeAt_20 : decode cX11_placeAt 20 = .ok (.aload_n 0, 1) := by decide +kernel
theorem dX11_placeAt_21 : decode cX11_placeAt 21 = .ok (.getfield 76, 3) := by decide +kernel
theorem dX11_placeAt_24 : decode cX11_placeAt 24 = .ok (.iload_n 1, 1) := by decide +kernel
theorem dX11_placeAt_25 : decode cX11_placeAt 25 = .ok (.iload_n 2, 1) := by decide +kernel
theorem dX11_placeAt_26 : decode cX11_placeAt 26 = .ok (.invokevirtual 314, 3) := by decide +kernel
theorem dX11_placeAt_29 : decode cX11_placeAt 29 = .ok (.ireturn, 1) := by decide +kernel
theorem dX11_alone_0 : decode cX11_alone 0 = .ok (.aload_n 0, 1) := by decide +kernel
theorem dX11_alone_1 : decode cX11_alone 1 = .ok (.getfield 37, 3) := by decide +kernel
theorem dX11_alone_4 : decode cX11_alone 4 = .ok (.iload_n 1, 1) := by decide +kernel
theorem dX11_alone_5 : decode cX11_alone 5 = .ok (.invokevirtual 155, 3) := by decide +kernel
theorem dX11_alone_8 : decode cX11_alone 8 = .ok (.ifCond .eq 19, 3) := by decide +kernel
theorem dX11_alone_11 : decode cX11_alone 11 = .ok (.iload_n 3, 1) := by decide +kernel
theorem dX11_alone_12 : decode cX11_alone 12 = .ok (.iload 4, 2) := by decide +kernel
theorem dX11_alone_14 : decode cX11_alone 14 = .ok (.invokestatic 305, 3) := by decide +kernel
theorem dX11_alone_17 : decode cX11_alone 17 = .ok (.ifCond .eq 10, 3) := by decide +kernel
theorem dX11_alone_20 : decode cX11_alone 20 = .ok (.iload_n 2, 1) := by decide +kernel
theorem dX11_alone_21 : decode cX11_alone 21 = .ok (.invokestatic 317, 3) := by decide +kernel
theorem dX11_alone_24 : decode cX11_alone 24 = .ok (.ifCond .ne 5, 3) := by decide +kernel
theorem dX11_alone_27 : decode cX11_alone 27 = .ok (.iconst (-1), 1) := by decide +kernel
theorem dX11_alone_28 : decode cX11_alone 28 = .ok (.ireturn, 1) := by decide +kernel
theorem dX11_alone_29 : decode cX11_alone 29 = .ok (.aload_n 0, 1) := by decide +kernel
theorem dX11_alone_30 : decode cX11_alone 30 = .ok (.getfield 76, 3) := by decide +kernel
theorem dX11_alone_33 : decode cX11_alone 33 = .ok (.iload_n 1, 1) := by decide +kernel
theorem dX11_alone_34 : decode cX11_alone 34 = .ok (.iload_n 2, 1) := by decide +kernel
theorem dX11_alone_35 : decode cX11_alone 35 = .ok (.iload_n 3, 1) := by decide +kernel
theorem dX11_alone_36 : decode cX11_alone 36 = .ok (.iload 4, 2) := by decide +kernel
theorem dX11_alone_38 : decode cX11_alone 38 = .ok (.invokevirtual 308, 3) := by decide +kernel
theorem dX11_alone_41 : decode cX11_alone 41 = .ok (.ireturn, 1) := by decide +kernel
theorem dX11_recount_0 : decode cX11_recount 0 = .ok (.aload_n 0, 1) := by decide +kernel
theorem dX11_recount_1 : decode cX11_recount 1 = .ok (.getfield 37, 3) := by decide +kernel
theorem dX11_recount_4 : decode cX11_recount 4 = .ok (.iload_n 1, 1) := by decide +kernel
theorem dX11_recount_5 : decode cX11_recount 5 = .ok (.iload_n 2, 1) := by decide +kernel
theorem dX11_recount_6 : decode cX11_recount 6 = .ok (.iload_n 3, 1) := by decide +kernel
theorem dX11_recount_7 : decode cX11_recount 7 = .ok (.invokevirtual 320, 3) := by decide +kernel
theorem dX11_recount_10 : decode cX11_recount 10 = .ok (.ireturn, 1) := by decide +kernel
theorem dX11_kept_0 : decode cX11_kept 0 = .ok (.aload_n 0, 1) := by decide +kernel
theorem dX11_kept_1 : decode cX11_kept 1 = .ok (.getfield 37, 3) := by decide +kernel
theorem dX11_kept_4 : decode cX11_kept 4 = .ok (.iload_n 1, 1) := by decide +kernel
theorem dX11_kept_5 : decode cX11_kept 5 = .ok (.iload_n 2, 1) := by decide +kernel
theorem dX11_kept_6 : decode cX11_kept 6 = .ok (.iload_n 3, 1) := by decide +kernel
theorem dX11_kept_7 : decode cX11_kept 7 = .ok (.invokevirtual 323, 3) := by decide +kernel
theorem dX11_kept_10 : decode cX11_kept 10 = .ok (.ireturn, 1) := by decide +kernel
theorem dX11_changed_0 : decode cX11_changed 0 = .ok (.aload_n 0, 1) := by decide +kernel
theorem dX11_changed_1 : decode cX11_changed 1 = .ok (.getfield 37, 3) := by decide +kernel
theorem dX11_changed_4 : decode cX11_changed 4 = .ok (.iload_n 1, 1) := by decide +kernel
theorem dX11_changed_5 : decode cX11_changed 5 = .ok (.iload_n 2, 1) := by decide +kernel
theorem dX11_changed_6 : decode cX11_changed 6 = .ok (.invokevirtual 326, 3) := by decide +kernel
theorem dX11_changed_9 : decode cX11_changed 9 = .ok (.ireturn, 1) := by decide +kernel
theorem dX11_differs_0 : decode cX11_differs 0 = .ok (.aload_n 0, 1) := by decide +kernel
theorem dX11_differs_1 : decode cX11_differs 1 = .ok (.getfield 37, 3) := by decide +kernel
theorem dX11_differs_4 : decode cX11_differs 4 = .ok (.iload_n 1, 1) := by decide +kernel
theorem dX11_differs_5 : decode cX11_differs 5 = .ok (.invokevirtual 155, 3) := by decide +kernel
theorem dX11_differs_8 : decode cX11_differs 8 = .ok (.ifCond .eq 14, 3) := by decide +kernel
theorem dX11_differs_11 : decode cX11_differs 11 = .ok (.aload_n 0, 1) := by decide +kernel
theorem dX11_differs_12 : decode cX11_differs 12 = .ok (.getfield 37, 3) := by decide +kernel
theorem dX11_differs_15 : decode cX11_differs 15 = .ok (.iload_n 1, 1) := by decide +kernel
theorem dX11_differs_16 : decode cX11_differs 16 = .ok (.invokevirtual 329, 3) := by decide +kernel
theorem dX11_differs_19 : decode cX11_differs 19 = .ok (.goto 4, 3) := by decide +kernel
theorem dX11_differs_22 : decode cX11_differs 22 = .ok (.iconst (-1), 1) := by decide +kernel
theorem dX11_differs_23 : decode cX11_differs 23 = .ok (.ireturn, 1) := by decide +kernel
theorem dX11_take_0 : decode cX11_take 0 = .ok (.aload_n 0, 1) := by decide +kernel
theorem dX11_take_1 : decode cX11_take 1 = .ok (.getfield 37, 3) := by decide +kernel
theorem dX11_take_4 : decode cX11_take 4 = .ok (.iload_n 1, 1) := by decide +kernel
theorem dX11_take_5 : decode cX11_take 5 = .ok (.invokevirtual 155, 3) := by decide +kernel
theorem dX11_take_8 : decode cX11_take 8 = .ok (.ifCond .eq 14, 3) := by decide +kernel
theorem dX11_take_11 : decode cX11_take 11 = .ok (.aload_n 0, 1) := by decide +kernel
theorem dX11_take_12 : decode cX11_take 12 = .ok (.getfield 37, 3) := by decide +kernel
theorem dX11_take_15 : decode cX11_take 15 = .ok (.iload_n 1, 1) := by decide +kernel
theorem dX11_take_16 : decode cX11_take 16 = .ok (.invokevirtual 332, 3) := by decide +kernel
theorem dX11_take_19 : decode cX11_take 19 = .ok (.goto 4, 3) := by decide +kernel
theorem dX11_take_22 : decode cX11_take 22 = .ok (.iconst (-1), 1) := by decide +kernel
theorem dX11_take_23 : decode cX11_take 23 = .ok (.ireturn, 1) := by decide +kernel
theorem dX11_count_0 : decode cX11_count 0 = .ok (.iload_n 1, 1) := by decide +kernel
theorem dX11_count_1 : decode cX11_count 1 = .ok (.tableswitch 123 0 8 #[51, 59, 67, 75, 83, 91, 99, 107, 115], 51) := by decide +kernel
theorem dX11_count_52 : decode cX11_count 52 = .ok (.aload_n 0, 1) := by decide +kernel
theorem dX11_count_53 : decode cX11_count 53 = .ok (.getfield 12, 3) := by decide +kernel
theorem dX11_count_56 : decode cX11_count 56 = .ok (.getfield 335, 3) := by decide +kernel
theorem dX11_count_59 : decode cX11_count 59 = .ok (.ireturn, 1) := by decide +kernel
theorem dX11_count_60 : decode cX11_count 60 = .ok (.aload_n 0, 1) := by decide +kernel
theorem dX11_count_61 : decode cX11_count 61 = .ok (.getfield 12, 3) := by decide +kernel
theorem dX11_count_64 : decode cX11_count 64 = .ok (.getfield 338, 3) := by decide +kernel
theorem dX11_count_67 : decode cX11_count 67 = .ok (.ireturn, 1) := by decide +kernel
theorem dX11_count_68 : decode cX11_count 68 = .ok (.aload_n 0, 1) := by decide +kernel
theorem dX11_count_69 : decode cX11_count 69 = .ok (.getfield 28, 3) := by decide +kernel
theorem dX11_count_72 : decode cX11_count 72 = .ok (.getfield 341, 3) := by decide +kernel
theorem dX11_count_75 : decode cX11_count 75 = .ok (.ireturn, 1) := by decide +kernel
theorem dX11_count_76 : decode cX11_count 76 = .ok (.aload_n 0, 1) := by decide +kernel
theorem dX11_count_77 : decode cX11_count 77 = .ok (.getfield 37, 3) := by decide +kernel
theorem dX11_count_80 : decode cX11_count 80 = .ok (.getfield 146, 3) := by decide +kernel
theorem dX11_count_83 : decode cX11_count 83 = .ok (.ireturn, 1) := by decide +kernel
theorem dX11_count_84 : decode cX11_count 84 = .ok (.aload_n 0, 1) := by decide +kernel
theorem dX11_count_85 : decode cX11_count 85 = .ok (.getfield 62, 3) := by decide +kernel
theorem dX11_count_88 : decode cX11_count 88 = .ok (.getfield 342, 3) := by decide +kernel
theorem dX11_count_91 : decode cX11_count 91 = .ok (.ireturn, 1) := by decide +kernel
theorem dX11_count_92 : decode cX11_count 92 = .ok (.aload_n 0, 1) := by decide +kernel
theorem dX11_count_93 : decode cX11_count 93 = .ok (.getfield 21, 3) := by decide +kernel
theorem dX11_count_96 : decode cX11_count 96 = .ok (.getfield 126, 3) := by decide +kernel
theorem dX11_count_99 : decode cX11_count 99 = .ok (.ireturn, 1) := by decide +kernel
theorem dX11_count_100 : decode cX11_count 100 = .ok (.aload_n 0, 1) := by decide +kernel
theorem dX11_count_101 : decode cX11_count 101 = .ok (.getfield 28, 3) := by decide +kernel
theorem dX11_count_104 : decode cX11_count 104 = .ok (.getfield 143, 3) := by decide +kernel
theorem dX11_count_107 : decode cX11_count 107 = .ok (.ireturn, 1) := by decide +kernel
theorem dX11_count_108 : decode cX11_count 108 = .ok (.aload_n 0, 1) := by decide +kernel
theorem dX11_count_109 : decode cX11_count 109 = .ok (.getfield 12, 3) := by decide +kernel
theorem dX11_count_112 : decode cX11_count 112 = .ok (.getfield 343, 3) := by decide +kernel
theorem dX11_count_115 : decode cX11_count 115 = .ok (.ireturn, 1) := by decide +kernel
theorem dX11_count_116 : decode cX11_count 116 = .ok (.aload_n 0, 1) := by decide +kernel
theorem dX11_count_117 : decode cX11_count 117 = .ok (.getfield 69, 3) := by decide +kernel
theorem dX11_count_120 : decode cX11_count 120 = .ok (.getfield 346, 3) := by decide +kernel
theorem dX11_count_123 : decode cX11_count 123 = .ok (.ireturn, 1) := by decide +kernel
theorem dX11_count_124 : decode cX11_count 124 = .ok (.ldc_w 293, 3) := by decide +kernel
theorem dX11_count_127 : decode cX11_count 127 = .ok (.ireturn, 1) := by decide +kernel
