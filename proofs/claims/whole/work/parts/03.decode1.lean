theorem dX0_init_0 : decode cX0_init 0 = .ok (.aload_n 0, 1) := by decide +kernel
theorem dX0_init_1 : decode cX0_init 1 = .ok (.invokespecial 3, 3) := by decide +kernel
theorem dX0_init_4 : decode cX0_init 4 = .ok (.aload_n 0, 1) := by decide +kernel
theorem dX0_init_5 : decode cX0_init 5 = .ok (.bipush 6, 2) := by decide +kernel
theorem dX0_init_7 : decode cX0_init 7 = .ok (.newarray .int, 2) := by decide +kernel
theorem dX0_init_9 : decode cX0_init 9 = .ok (.putfield 11, 3) := by decide +kernel
theorem dX0_init_12 : decode cX0_init 12 = .ok (.aload_n 0, 1) := by decide +kernel
theorem dX0_init_13 : decode cX0_init 13 = .ok (.bipush 6, 2) := by decide +kernel
theorem dX0_init_15 : decode cX0_init 15 = .ok (.newarray .int, 2) := by decide +kernel
theorem dX0_init_17 : decode cX0_init 17 = .ok (.putfield 15, 3) := by decide +kernel
theorem dX0_init_20 : decode cX0_init 20 = .ok (.aload_n 0, 1) := by decide +kernel
theorem dX0_init_21 : decode cX0_init 21 = .ok (.bipush 10, 2) := by decide +kernel
theorem dX0_init_23 : decode cX0_init 23 = .ok (.newarray .int, 2) := by decide +kernel
theorem dX0_init_25 : decode cX0_init 25 = .ok (.putfield 18, 3) := by decide +kernel
theorem dX0_init_28 : decode cX0_init 28 = .ok (.aload_n 0, 1) := by decide +kernel
theorem dX0_init_29 : decode cX0_init 29 = .ok (.bipush 10, 2) := by decide +kernel
theorem dX0_init_31 : decode cX0_init 31 = .ok (.newarray .int, 2) := by decide +kernel
theorem dX0_init_33 : decode cX0_init 33 = .ok (.putfield 21, 3) := by decide +kernel
theorem dX0_init_36 : decode cX0_init 36 = .ok (.aload_n 0, 1) := by decide +kernel
theorem dX0_init_37 : decode cX0_init 37 = .ok (.iconst 1, 1) := by decide +kernel
theorem dX0_init_38 : decode cX0_init 38 = .ok (.putfield 24, 3) := by decide +kernel
theorem dX0_init_41 : decode cX0_init 41 = .ok (.aload_n 0, 1) := by decide +kernel
theorem dX0_init_42 : decode cX0_init 42 = .ok (.sipush 1024, 3) := by decide +kernel
theorem dX0_init_45 : decode cX0_init 45 = .ok (.newarray .int, 2) := by decide +kernel
theorem dX0_init_47 : decode cX0_init 47 = .ok (.putfield 28, 3) := by decide +kernel
theorem dX0_init_50 : decode cX0_init 50 = .ok (.aload_n 0, 1) := by decide +kernel
theorem dX0_init_51 : decode cX0_init 51 = .ok (.bipush 16, 2) := by decide +kernel
theorem dX0_init_53 : decode cX0_init 53 = .ok (.newarray .int, 2) := by decide +kernel
theorem dX0_init_55 : decode cX0_init 55 = .ok (.putfield 31, 3) := by decide +kernel
theorem dX0_init_58 : decode cX0_init 58 = .ok (.aload_n 0, 1) := by decide +kernel
theorem dX0_init_59 : decode cX0_init 59 = .ok (.iload_n 1, 1) := by decide +kernel
theorem dX0_init_60 : decode cX0_init 60 = .ok (.iconst 2, 1) := by decide +kernel
theorem dX0_init_61 : decode cX0_init 61 = .ok (.bipush 16, 2) := by decide +kernel
theorem dX0_init_63 : decode cX0_init 63 = .ok (.invokestatic 34, 3) := by decide +kernel
theorem dX0_init_66 : decode cX0_init 66 = .ok (.putfield 40, 3) := by decide +kernel
theorem dX0_init_69 : decode cX0_init 69 = .ok (.return_, 1) := by decide +kernel
theorem dX0_isRow_0 : decode cX0_isRow 0 = .ok (.iload_n 1, 1) := by decide +kernel
theorem dX0_isRow_1 : decode cX0_isRow 1 = .ok (.iconst 0, 1) := by decide +kernel
theorem dX0_isRow_2 : decode cX0_isRow 2 = .ok (.aload_n 0, 1) := by decide +kernel
theorem dX0_isRow_3 : decode cX0_isRow 3 = .ok (.getfield 40, 3) := by decide +kernel
theorem dX0_isRow_6 : decode cX0_isRow 6 = .ok (.invokestatic 44, 3) := by decide +kernel
theorem dX0_isRow_9 : decode cX0_isRow 9 = .ok (.invokestatic 48, 3) := by decide +kernel
theorem dX0_isRow_12 : decode cX0_isRow 12 = .ok (.ireturn, 1) := by decide +kernel
theorem dX0_isLever_0 : decode cX0_isLever 0 = .ok (.iload_n 1, 1) := by decide +kernel
theorem dX0_isLever_1 : decode cX0_isLever 1 = .ok (.iconst 0, 1) := by decide +kernel
theorem dX0_isLever_2 : decode cX0_isLever 2 = .ok (.aload_n 0, 1) := by decide +kernel
theorem dX0_isLever_3 : decode cX0_isLever 3 = .ok (.getfield 40, 3) := by decide +kernel
theorem dX0_isLever_6 : decode cX0_isLever 6 = .ok (.iconst 1, 1) := by decide +kernel
theorem dX0_isLever_7 : decode cX0_isLever 7 = .ok (.isub, 1) := by decide +kernel
theorem dX0_isLever_8 : decode cX0_isLever 8 = .ok (.invokestatic 48, 3) := by decide +kernel
theorem dX0_isLever_11 : decode cX0_isLever 11 = .ok (.ireturn, 1) := by decide +kernel
theorem dX0_isOffice_0 : decode cX0_isOffice 0 = .ok (.iload_n 1, 1) := by decide +kernel
theorem dX0_isOffice_1 : decode cX0_isOffice 1 = .ok (.iconst 0, 1) := by decide +kernel
theorem dX0_isOffice_2 : decode cX0_isOffice 2 = .ok (.aload_n 0, 1) := by decide +kernel
theorem dX0_isOffice_3 : decode cX0_isOffice 3 = .ok (.getfield 52, 3) := by decide +kernel
theorem dX0_isOffice_6 : decode cX0_isOffice 6 = .ok (.iconst 1, 1) := by decide +kernel
theorem dX0_isOffice_7 : decode cX0_isOffice 7 = .ok (.isub, 1) := by decide +kernel
theorem dX0_isOffice_8 : decode cX0_isOffice 8 = .ok (.invokestatic 48, 3) := by decide +kernel
theorem dX0_isOffice_11 : decode cX0_isOffice 11 = .ok (.ireturn, 1) := by decide +kernel
theorem dX0_addOffice_0 : decode cX0_addOffice 0 = .ok (.aload_n 0, 1) := by decide +kernel
theorem dX0_addOffice_1 : decode cX0_addOffice 1 = .ok (.iload_n 1, 1) := by decide +kernel
theorem dX0_addOffice_2 : decode cX0_addOffice 2 = .ok (.invokevirtual 55, 3) := by decide +kernel
theorem dX0_addOffice_5 : decode cX0_addOffice 5 = .ok (.ifCond .eq 25, 3) := by decide +kernel
theorem dX0_addOffice_8 : decode cX0_addOffice 8 = .ok (.iload_n 1, 1) := by decide +kernel
theorem dX0_addOffice_9 : decode cX0_addOffice 9 = .ok (.ifCond .eq 21, 3) := by decide +kernel
theorem dX0_addOffice_12 : decode cX0_addOffice 12 = .ok (.iload_n 1, 1) := by decide +kernel
theorem dX0_addOffice_13 : decode cX0_addOffice 13 = .ok (.aload_n 0, 1) := by decide +kernel
theorem dX0_addOffice_14 : decode cX0_addOffice 14 = .ok (.getfield 59, 3) := by decide +kernel
theorem dX0_addOffice_17 : decode cX0_addOffice 17 = .ok (.iand, 1) := by decide +kernel
theorem dX0_addOffice_18 : decode cX0_addOffice 18 = .ok (.ifCond .ne 12, 3) := by decide +kernel
theorem dX0_addOffice_21 : decode cX0_addOffice 21 = .ok (.aload_n 0, 1) := by decide +kernel
theorem dX0_addOffice_22 : decode cX0_addOffice 22 = .ok (.getfield 52, 3) := by decide +kernel
theorem dX0_addOffice_25 : decode cX0_addOffice 25 = .ok (.bipush 6, 2) := by decide +kernel
theorem dX0_addOffice_27 : decode cX0_addOffice 27 = .ok (.if_icmp .lt 5, 3) := by decide +kernel
theorem dX0_addOffice_30 : decode cX0_addOffice 30 = .ok (.iconst (-1), 1) := by decide +kernel
theorem dX0_addOffice_31 : decode cX0_addOffice 31 = .ok (.ireturn, 1) := by decide +kernel
theorem dX0_addOffice_32 : decode cX0_addOffice 32 = .ok (.iload_n 2, 1) := by decide +kernel
theorem dX0_addOffice_33 : decode cX0_addOffice 33 = .ok (.iconst 1, 1) := by decide +kernel
theorem dX0_addOffice_34 : decode cX0_addOffice 34 = .ok (.iload_n 1, 1) := by decide +kernel
theorem dX0_addOffice_35 : decode cX0_addOffice 35 = .ok (.invokestatic 62, 3) := by decide +kernel
theorem dX0_addOffice_38 : decode cX0_addOffice 38 = .ok (.invokestatic 48, 3) := by decide +kernel
theorem dX0_addOffice_41 : decode cX0_addOffice 41 = .ok (.ifCond .ne 5, 3) := by decide +kernel
theorem dX0_addOffice_44 : decode cX0_addOffice 44 = .ok (.iconst (-1), 1) := by decide +kernel
theorem dX0_addOffice_45 : decode cX0_addOffice 45 = .ok (.ireturn, 1) := by decide +kernel
theorem dX0_addOffice_46 : decode cX0_addOffice 46 = .ok (.aload_n 0, 1) := by decide +kernel
theorem dX0_addOffice_47 : decode cX0_addOffice 47 = .ok (.getfield 11, 3) := by decide +kernel
theorem dX0_addOffice_50 : decode cX0_addOffice 50 = .ok (.aload_n 0, 1) := by decide +kernel
theorem dX0_addOffice_51 : decode cX0_addOffice 51 = .ok (.getfield 52, 3) := by decide +kernel
theorem dX0_addOffice_54 : decode cX0_addOffice 54 = .ok (.iload_n 1, 1) := by decide +kernel
theorem dX0_addOffice_55 : decode cX0_addOffice 55 = .ok (.invokestatic 67, 3) := by decide +kernel
theorem dX0_addOffice_58 : decode cX0_addOffice 58 = .ok (.aload_n 0, 1) := by decide +kernel
theorem dX0_addOffice_59 : decode cX0_addOffice 59 = .ok (.getfield 15, 3) := by decide +kernel
theorem dX0_addOffice_62 : decode cX0_addOffice 62 = .ok (.aload_n 0, 1) := by decide +kernel
theorem dX0_addOffice_63 : decode cX0_addOffice 63 = .ok (.getfield 52, 3) := by decide +kernel
theorem dX0_addOffice_66 : decode cX0_addOffice 66 = .ok (.iload_n 2, 1) := by decide +kernel
theorem dX0_addOffice_67 : decode cX0_addOffice 67 = .ok (.invokestatic 67, 3) := by decide +kernel
theorem dX0_addOffice_70 : decode cX0_addOffice 70 = .ok (.aload_n 0, 1) := by decide +kernel
theorem dX0_addOffice_71 : decode cX0_addOffice 71 = .ok (.dup, 1) := by decide +kernel
theorem dX0_addOffice_72 : decode cX0_addOffice 72 = .ok (.getfield 59, 3) := by decide +kernel
theorem dX0_addOffice_75 : decode cX0_addOffice 75 = .ok (.iload_n 1, 1) := by decide +kernel
theorem dX0_addOffice_76 : decode cX0_addOffice 76 = .ok (.ior, 1) := by decide +kernel
theorem dX0_addOffice_77 : decode cX0_addOffice 77 = .ok (.putfield 59, 3) := by decide +kernel
theorem dX0_addOffice_80 : decode cX0_addOffice 80 = .ok (.aload_n 0, 1) := by decide +kernel
theorem dX0_addOffice_81 : decode cX0_addOffice 81 = .ok (.iconst 1, 1) := by decide +kernel
theorem dX0_addOffice_82 : decode cX0_addOffice 82 = .ok (.putfield 24, 3) := by decide +kernel
theorem dX0_addOffice_85 : decode cX0_addOffice 85 = .ok (.aload_n 0, 1) := by decide +kernel
theorem dX0_addOffice_86 : decode cX0_addOffice 86 = .ok (.dup, 1) := by decide +kernel
theorem dX0_addOffice_87 : decode cX0_addOffice 87 = .ok (.getfield 52, 3) := by decide +kernel
theorem dX0_addOffice_90 : decode cX0_addOffice 90 = .ok (.dup_x1, 1) := by decide +kernel
theorem dX0_addOffice_91 : decode cX0_addOffice 91 = .ok (.iconst 1, 1) := by decide +kernel
theorem dX0_addOffice_92 : decode cX0_addOffice 92 = .ok (.iadd, 1) := by decide +kernel
theorem dX0_addOffice_93 : decode cX0_addOffice 93 = .ok (.putfield 52, 3) := by decide +kernel
theorem dX0_addOffice_96 : decode cX0_addOffice 96 = .ok (.ireturn, 1) := by decide +kernel
theorem dX0_addStrap_0 : decode cX0_addStrap 0 = .ok (.aload_n 0, 1) := by decide +kernel
theorem dX0_addStrap_1 : decode cX0_addStrap 1 = .ok (.iload_n 1, 1) := by decide +kernel
theorem dX0_addStrap_2 : decode cX0_addStrap 2 = .ok (.invokevirtual 55, 3) := by decide +kernel
theorem dX0_addStrap_5 : decode cX0_addStrap 5 = .ok (.ifCond .eq 28, 3) := by decide +kernel
theorem dX0_addStrap_8 : decode cX0_addStrap 8 = .ok (.iload_n 1, 1) := by decide +kernel
theorem dX0_addStrap_9 : decode cX0_addStrap 9 = .ok (.ifCond .eq 24, 3) := by decide +kernel
theorem dX0_addStrap_12 : decode cX0_addStrap 12 = .ok (.aload_n 0, 1) := by decide +kernel
theorem dX0_addStrap_13 : decode cX0_addStrap 13 = .ok (.getfield 71, 3) := by decide +kernel
theorem dX0_addStrap_16 : decode cX0_addStrap 16 = .ok (.bipush 10, 2) := by decide +kernel
theorem dX0_addStrap_18 : decode cX0_addStrap 18 = .ok (.if_icmp .ge 15, 3) := by decide +kernel
theorem dX0_addStrap_21 : decode cX0_addStrap 21 = .ok (.iload_n 2, 1) := by decide +kernel
theorem dX0_addStrap_22 : decode cX0_addStrap 22 = .ok (.iconst 0, 1) := by decide +kernel
theorem dX0_addStrap_23 : decode cX0_addStrap 23 = .ok (.iload_n 1, 1) := by decide +kernel
theorem dX0_addStrap_24 : decode cX0_addStrap 24 = .ok (.invokestatic 62, 3) := by decide +kernel
theorem dX0_addStrap_27 : decode cX0_addStrap 27 = .ok (.invokestatic 48, 3) := by decide +kernel
theorem dX0_addStrap_30 : decode cX0_addStrap 30 = .ok (.ifCond .ne 5, 3) := by decide +kernel
theorem dX0_addStrap_33 : decode cX0_addStrap 33 = .ok (.iconst (-1), 1) := by decide +kernel
theorem dX0_addStrap_34 : decode cX0_addStrap 34 = .ok (.ireturn, 1) := by decide +kernel
theorem dX0_addStrap_35 : decode cX0_addStrap 35 = .ok (.aload_n 0, 1) := by decide +kernel
theorem dX0_addStrap_36 : decode cX0_addStrap 36 = .ok (.getfield 18, 3) := by decide +kernel
theorem dX0_addStrap_39 : decode cX0_addStrap 39 = .ok (.aload_n 0, 1) := by decide +kernel
theorem dX0_addStrap_40 : decode cX0_addStrap 40 = .ok (.getfield 71, 3) := by decide +kernel
theorem dX0_addStrap_43 : decode cX0_addStrap 43 = .ok (.iload_n 1, 1) := by decide +kernel
theorem dX0_addStrap_44 : decode cX0_addStrap 44 = .ok (.invokestatic 67, 3) := by decide +kernel
theorem dX0_addStrap_47 : decode cX0_addStrap 47 = .ok (.aload_n 0, 1) := by decide +kernel
theorem dX0_addStrap_48 : decode cX0_addStrap 48 = .ok (.getfield 21, 3) := by decide +kernel
theorem dX0_addStrap_51 : decode cX0_addStrap 51 = .ok (.aload_n 0, 1) := by decide +kernel
theorem dX0_addStrap_52 : decode cX0_addStrap 52 = .ok (.getfield 71, 3) := by decide +kernel
theorem dX0_addStrap_55 : decode cX0_addStrap 55 = .ok (.iload_n 2, 1) := by decide +kernel
theorem dX0_addStrap_56 : decode cX0_addStrap 56 = .ok (.invokestatic 67, 3) := by decide +kernel
theorem dX0_addStrap_59 : decode cX0_addStrap 59 = .ok (.aload_n 0, 1) := by decide +kernel
theorem dX0_addStrap_60 : decode cX0_addStrap 60 = .ok (.iconst 1, 1) := by decide +kernel
theorem dX0_addStrap_61 : decode cX0_addStrap 61 = .ok (.putfield 24, 3) := by decide +kernel
theorem dX0_addStrap_64 : decode cX0_addStrap 64 = .ok (.aload_n 0, 1) := by decide +kernel
theorem dX0_addStrap_65 : decode cX0_addStrap 65 = .ok (.dup, 1) := by decide +kernel
theorem dX0_addStrap_66 : decode cX0_addStrap 66 = .ok (.getfield 71, 3) := by decide +kernel
theorem dX0_addStrap_69 : decode cX0_addStrap 69 = .ok (.dup_x1, 1) := by decide +kernel
theorem dX0_addStrap_70 : decode cX0_addStrap 70 = .ok (.iconst 1, 1) := by decide +kernel
theorem dX0_addStrap_71 : decode cX0_addStrap 71 = .ok (.iadd, 1) := by decide +kernel
theorem dX0_addStrap_72 : decode cX0_addStrap 72 = .ok (.putfield 71, 3) := by decide +kernel
theorem dX0_addStrap_75 : decode cX0_addStrap 75 = .ok (.ireturn, 1) := by decide +kernel
theorem dX0_dropStrap_0 : decode cX0_dropStrap 0 = .ok (.aload_n 0, 1) := by decide +kernel
theorem dX0_dropStrap_1 : decode cX0_dropStrap 1 = .ok (.getfield 71, 3) := by decide +kernel
theorem dX0_dropStrap_4 : decode cX0_dropStrap 4 = .ok (.ifCond .ne 5, 3) := by decide +kernel
theorem dX0_dropStrap_7 : decode cX0_dropStrap 7 = .ok (.iconst (-1), 1) := by decide +kernel
theorem dX0_dropStrap_8 : decode cX0_dropStrap 8 = .ok (.ireturn, 1) := by decide +kernel
theorem dX0_dropStrap_9 : decode cX0_dropStrap 9 = .ok (.aload_n 0, 1) := by decide +kernel
theorem dX0_dropStrap_10 : decode cX0_dropStrap 10 = .ok (.dup, 1) := by decide +kernel
theorem dX0_dropStrap_11 : decode cX0_dropStrap 11 = .ok (.getfield 71, 3) := by decide +kernel
theorem dX0_dropStrap_14 : decode cX0_dropStrap 14 = .ok (.iconst 1, 1) := by decide +kernel
theorem dX0_dropStrap_15 : decode cX0_dropStrap 15 = .ok (.isub, 1) := by decide +kernel
theorem dX0_dropStrap_16 : decode cX0_dropStrap 16 = .ok (.putfield 71, 3) := by decide +kernel
theorem dX0_dropStrap_19 : decode cX0_dropStrap 19 = .ok (.aload_n 0, 1) := by decide +kernel
theorem dX0_dropStrap_20 : decode cX0_dropStrap 20 = .ok (.iconst 1, 1) := by decide +kernel
theorem dX0_dropStrap_21 : decode cX0_dropStrap 21 = .ok (.putfield 24, 3) := by decide +kernel
theorem dX0_dropStrap_24 : decode cX0_dropStrap 24 = .ok (.aload_n 0, 1) := by decide +kernel
theorem dX0_dropStrap_25 : decode cX0_dropStrap 25 = .ok (.getfield 71, 3) := by decide +kernel
theorem dX0_dropStrap_28 : decode cX0_dropStrap 28 = .ok (.ireturn, 1) := by decide +kernel
theorem dX0_leversOf_0 : decode cX0_leversOf 0 = .ok (.aload_n 0, 1) := by decide +kernel
theorem dX0_leversOf_1 : decode cX0_leversOf 1 = .ok (.getfield 11, 3) := by decide +kernel
theorem dX0_leversOf_4 : decode cX0_leversOf 4 = .ok (.iload_n 1, 1) := by decide +kernel
theorem dX0_leversOf_5 : decode cX0_leversOf 5 = .ok (.invokestatic 74, 3) := by decide +kernel
theorem dX0_leversOf_8 : decode cX0_leversOf 8 = .ok (.ireturn, 1) := by decide +kernel
theorem dX0_mostOf_0 : decode cX0_mostOf 0 = .ok (.aload_n 0, 1) := by decide +kernel
theorem dX0_mostOf_1 : decode cX0_mostOf 1 = .ok (.getfield 15, 3) := by decide +kernel
theorem dX0_mostOf_4 : decode cX0_mostOf 4 = .ok (.iload_n 1, 1) := by decide +kernel
theorem dX0_mostOf_5 : decode cX0_mostOf 5 = .ok (.invokestatic 74, 3) := by decide +kernel
theorem dX0_mostOf_8 : decode cX0_mostOf 8 = .ok (.ireturn, 1) := by decide +kernel
theorem dX0_isRuled_0 : decode cX0_isRuled 0 = .ok (.aload_n 0, 1) := by decide +kernel
theorem dX0_isRuled_1 : decode cX0_isRuled 1 = .ok (.getfield 59, 3) := by decide +kernel
theorem dX0_isRuled_4 : decode cX0_isRuled 4 = .ok (.iload_n 1, 1) := by decide +kernel
theorem dX0_isRuled_5 : decode cX0_isRuled 5 = .ok (.invokestatic 78, 3) := by decide +kernel
theorem dX0_isRuled_8 : decode cX0_isRuled 8 = .ok (.ireturn, 1) := by decide +kernel
theorem dX0_officeOf_0 : decode cX0_officeOf 0 = .ok (.iconst 0, 1) := by decide +kernel
theorem dX0_officeOf_1 : decode cX0_officeOf 1 = .ok (.istore_n 2, 1) := by decide +kernel
theorem dX0_officeOf_2 : decode cX0_officeOf 2 = .ok (.iload_n 2, 1) := by decide +kernel
theorem dX0_officeOf_3 : decode cX0_officeOf 3 = .ok (.aload_n 0, 1) := by decide +kernel
theorem dX0_officeOf_4 : decode cX0_officeOf 4 = .ok (.getfield 52, 3) := by decide +kernel
theorem dX0_officeOf_7 : decode cX0_officeOf 7 = .ok (.if_icmp .ge 23, 3) := by decide +kernel
theorem dX0_officeOf_10 : decode cX0_officeOf 10 = .ok (.aload_n 0, 1) := by decide +kernel
theorem dX0_officeOf_11 : decode cX0_officeOf 11 = .ok (.iload_n 2, 1) := by decide +kernel
theorem dX0_officeOf_12 : decode cX0_officeOf 12 = .ok (.invokevirtual 82, 3) := by decide +kernel
theorem dX0_officeOf_15 : decode cX0_officeOf 15 = .ok (.iload_n 1, 1) := by decide +kernel
theorem dX0_officeOf_16 : decode cX0_officeOf 16 = .ok (.invokestatic 78, 3) := by decide +kernel
theorem dX0_officeOf_19 : decode cX0_officeOf 19 = .ok (.ifCond .eq 5, 3) := by decide +kernel
theorem dX0_officeOf_22 : decode cX0_officeOf 22 = .ok (.iload_n 2, 1) := by decide +kernel
theorem dX0_officeOf_23 : decode cX0_officeOf 23 = .ok (.ireturn, 1) := by decide +kernel
theorem dX0_officeOf_24 : decode cX0_officeOf 24 = .ok (.iinc 2 1, 3) := by decide +kernel
theorem dX0_officeOf_27 : decode cX0_officeOf 27 = .ok (.goto (-25), 3) := by decide +kernel
theorem dX0_officeOf_30 : decode cX0_officeOf 30 = .ok (.iconst (-1), 1) := by decide +kernel
theorem dX0_officeOf_31 : decode cX0_officeOf 31 = .ok (.ireturn, 1) := by decide +kernel
theorem dX0_strapsAgainst_0 : decode cX0_strapsAgainst 0 = .ok (.iconst 0, 1) := by decide +kernel
theorem dX0_strapsAgainst_1 : decode cX0_strapsAgainst 1 = .ok (.istore_n 3, 1) := by decide +kernel
theorem dX0_strapsAgainst_2 : decode cX0_strapsAgainst 2 = .ok (.iconst 0, 1) := by decide +kernel
theorem dX0_strapsAgainst_3 : decode cX0_strapsAgainst 3 = .ok (.istore 4, 2) := by decide +kernel
theorem dX0_strapsAgainst_5 : decode cX0_strapsAgainst 5 = .ok (.iload 4, 2) := by decide +kernel
theorem dX0_strapsAgainst_7 : decode cX0_strapsAgainst 7 = .ok (.aload_n 0, 1) := by decide +kernel
theorem dX0_strapsAgainst_8 : decode cX0_strapsAgainst 8 = .ok (.getfield 71, 3) := by decide +kernel
theorem dX0_strapsAgainst_11 : decode cX0_strapsAgainst 11 = .ok (.if_icmp .ge 68, 3) := by decide +kernel
theorem dX0_strapsAgainst_14 : decode cX0_strapsAgainst 14 = .ok (.aload_n 0, 1) := by decide +kernel
theorem dX0_strapsAgainst_15 : decode cX0_strapsAgainst 15 = .ok (.getfield 18, 3) := by decide +kernel
theorem dX0_strapsAgainst_18 : decode cX0_strapsAgainst 18 = .ok (.iload 4, 2) := by decide +kernel
theorem dX0_strapsAgainst_20 : decode cX0_strapsAgainst 20 = .ok (.invokestatic 74, 3) := by decide +kernel
theorem dX0_strapsAgainst_23 : decode cX0_strapsAgainst 23 = .ok (.istore 5, 2) := by decide +kernel
theorem dX0_strapsAgainst_25 : decode cX0_strapsAgainst 25 = .ok (.iload 5, 2) := by decide +kernel
theorem dX0_strapsAgainst_27 : decode cX0_strapsAgainst 27 = .ok (.iload_n 2, 1) := by decide +kernel
theorem dX0_strapsAgainst_28 : decode cX0_strapsAgainst 28 = .ok (.iconst (-1), 1) := by decide +kernel
theorem dX0_strapsAgainst_29 : decode cX0_strapsAgainst 29 = .ok (.ixor, 1) := by decide +kernel
theorem dX0_strapsAgainst_30 : decode cX0_strapsAgainst 30 = .ok (.iand, 1) := by decide +kernel
theorem dX0_strapsAgainst_31 : decode cX0_strapsAgainst 31 = .ok (.ifCond .ne 7, 3) := by decide +kernel
theorem dX0_strapsAgainst_34 : decode cX0_strapsAgainst 34 = .ok (.iconst 1, 1) := by decide +kernel
theorem dX0_strapsAgainst_35 : decode cX0_strapsAgainst 35 = .ok (.goto 4, 3) := by decide +kernel
theorem dX0_strapsAgainst_38 : decode cX0_strapsAgainst 38 = .ok (.iconst 0, 1) := by decide +kernel
theorem dX0_strapsAgainst_39 : decode cX0_strapsAgainst 39 = .ok (.istore 6, 2) := by decide +kernel
theorem dX0_strapsAgainst_41 : decode cX0_strapsAgainst 41 = .ok (.iload 6, 2) := by decide +kernel
theorem dX0_strapsAgainst_43 : decode cX0_strapsAgainst 43 = .ok (.ifCond .ne 30, 3) := by decide +kernel
theorem dX0_strapsAgainst_46 : decode cX0_strapsAgainst 46 = .ok (.iload_n 1, 1) := by decide +kernel
theorem dX0_strapsAgainst_47 : decode cX0_strapsAgainst 47 = .ok (.iload 5, 2) := by decide +kernel
theorem dX0_strapsAgainst_49 : decode cX0_strapsAgainst 49 = .ok (.iand, 1) := by decide +kernel
theorem dX0_strapsAgainst_50 : decode cX0_strapsAgainst 50 = .ok (.invokestatic 62, 3) := by decide +kernel
theorem dX0_strapsAgainst_53 : decode cX0_strapsAgainst 53 = .ok (.aload_n 0, 1) := by decide +kernel
theorem dX0_strapsAgainst_54 : decode cX0_strapsAgainst 54 = .ok (.getfield 21, 3) := by decide +kernel
theorem dX0_strapsAgainst_57 : decode cX0_strapsAgainst 57 = .ok (.iload 4, 2) := by decide +kernel
theorem dX0_strapsAgainst_59 : decode cX0_strapsAgainst 59 = .ok (.invokestatic 74, 3) := by decide +kernel
theorem dX0_strapsAgainst_62 : decode cX0_strapsAgainst 62 = .ok (.if_icmp .le 11, 3) := by decide +kernel
theorem dX0_strapsAgainst_65 : decode cX0_strapsAgainst 65 = .ok (.iload_n 3, 1) := by decide +kernel
theorem dX0_strapsAgainst_66 : decode cX0_strapsAgainst 66 = .ok (.iload 4, 2) := by decide +kernel
theorem dX0_strapsAgainst_68 : decode cX0_strapsAgainst 68 = .ok (.invokestatic 85, 3) := by decide +kernel
theorem dX0_strapsAgainst_71 : decode cX0_strapsAgainst 71 = .ok (.ior, 1) := by decide +kernel
theorem dX0_strapsAgainst_72 : decode cX0_strapsAgainst 72 = .ok (.istore_n 3, 1) := by decide +kernel
theorem dX0_strapsAgainst_73 : decode cX0_strapsAgainst 73 = .ok (.iinc 4 1, 3) := by decide +kernel
theorem dX0_strapsAgainst_76 : decode cX0_strapsAgainst 76 = .ok (.goto (-71), 3) := by decide +kernel
theorem dX0_strapsAgainst_79 : decode cX0_strapsAgainst 79 = .ok (.iload_n 3, 1) := by decide +kernel
theorem dX0_strapsAgainst_80 : decode cX0_strapsAgainst 80 = .ok (.ireturn, 1) := by decide +kernel
theorem dX0_isLet_0 : decode cX0_isLet 0 = .ok (.aload_n 0, 1) := by decide +kernel
theorem dX0_isLet_1 : decode cX0_isLet 1 = .ok (.iload_n 1, 1) := by decide +kernel
theorem dX0_isLet_2 : decode cX0_isLet 2 = .ok (.iconst 0, 1) := by decide +kernel
theorem dX0_isLet_3 : decode cX0_isLet 3 = .ok (.invokevirtual 88, 3) := by decide +kernel
theorem dX0_isLet_6 : decode cX0_isLet 6 = .ok (.ifCond .ne 7, 3) := by decide +kernel
theorem dX0_isLet_9 : decode cX0_isLet 9 = .ok (.iconst 1, 1) := by decide +kernel
theorem dX0_isLet_10 : decode cX0_isLet 10 = .ok (.goto 4, 3) := by decide +kernel
theorem dX0_isLet_13 : decode cX0_isLet 13 = .ok (.iconst 0, 1) := by decide +kernel
theorem dX0_isLet_14 : decode cX0_isLet 14 = .ok (.ireturn, 1) := by decide +kernel
theorem dX0_isLawful_0 : decode cX0_isLawful 0 = .ok (.iconst 0, 1) := by decide +kernel
theorem dX0_isLawful_1 : decode cX0_isLawful 1 = .ok (.istore_n 2, 1) := by decide +kernel
theorem dX0_isLawful_2 : decode cX0_isLawful 2 = .ok (.iload_n 2, 1) := by decide +kernel
theorem dX0_isLawful_3 : decode cX0_isLawful 3 = .ok (.aload_n 0, 1) := by decide +kernel
theorem dX0_isLawful_4 : decode cX0_isLawful 4 = .ok (.getfield 52, 3) := by decide +kernel
theorem dX0_isLawful_7 : decode cX0_isLawful 7 = .ok (.if_icmp .ge 29, 3) := by decide +kernel
theorem dX0_isLawful_10 : decode cX0_isLawful 10 = .ok (.iload_n 1, 1) := by decide +kernel
theorem dX0_isLawful_11 : decode cX0_isLawful 11 = .ok (.aload_n 0, 1) := by decide +kernel
theorem dX0_isLawful_12 : decode cX0_isLawful 12 = .ok (.iload_n 2, 1) := by decide +kernel
theorem dX0_isLawful_13 : decode cX0_isLawful 13 = .ok (.invokevirtual 82, 3) := by decide +kernel
theorem dX0_isLawful_16 : decode cX0_isLawful 16 = .ok (.iand, 1) := by decide +kernel
theorem dX0_isLawful_17 : decode cX0_isLawful 17 = .ok (.invokestatic 62, 3) := by decide +kernel
theorem dX0_isLawful_20 : decode cX0_isLawful 20 = .ok (.aload_n 0, 1) := by decide +kernel
theorem dX0_isLawful_21 : decode cX0_isLawful 21 = .ok (.iload_n 2, 1) := by decide +kernel
theorem dX0_isLawful_22 : decode cX0_isLawful 22 = .ok (.invokevirtual 92, 3) := by decide +kernel
theorem dX0_isLawful_25 : decode cX0_isLawful 25 = .ok (.if_icmp .le 5, 3) := by decide +kernel
theorem dX0_isLawful_28 : decode cX0_isLawful 28 = .ok (.iconst 0, 1) := by decide +kernel
theorem dX0_isLawful_29 : decode cX0_isLawful 29 = .ok (.ireturn, 1) := by decide +kernel
theorem dX0_isLawful_30 : decode cX0_isLawful 30 = .ok (.iinc 2 1, 3) := by decide +kernel
theorem dX0_isLawful_33 : decode cX0_isLawful 33 = .ok (.goto (-31), 3) := by decide +kernel
theorem dX0_isLawful_36 : decode cX0_isLawful 36 = .ok (.iconst 1, 1) := by decide +kernel
theorem dX0_isLawful_37 : decode cX0_isLawful 37 = .ok (.ireturn, 1) := by decide +kernel
theorem dX0_beatingRow_0 : decode cX0_beatingRow 0 = .ok (.aload_n 0, 1) := by decide +kernel
theorem dX0_beatingRow_1 : decode cX0_beatingRow 1 = .ok (.invokevirtual 95, 3) := by decide +kernel
theorem dX0_beatingRow_4 : decode cX0_beatingRow 4 = .ok (.aload_n 0, 1) := by decide +kernel
theorem dX0_beatingRow_5 : decode cX0_beatingRow 5 = .ok (.getfield 98, 3) := by decide +kernel
theorem dX0_beatingRow_8 : decode cX0_beatingRow 8 = .ok (.ireturn, 1) := by decide +kernel
theorem dX0_barredRow_0 : decode cX0_barredRow 0 = .ok (.aload_n 0, 1) := by decide +kernel
theorem dX0_barredRow_1 : decode cX0_barredRow 1 = .ok (.invokevirtual 95, 3) := by decide +kernel
theorem dX0_barredRow_4 : decode cX0_barredRow 4 = .ok (.aload_n 0, 1) := by decide +kernel
theorem dX0_barredRow_5 : decode cX0_barredRow 5 = .ok (.getfield 101, 3) := by decide +kernel
theorem dX0_barredRow_8 : decode cX0_barredRow 8 = .ok (.ireturn, 1) := by decide +kernel
theorem dX0_letRows_0 : decode cX0_letRows 0 = .ok (.aload_n 0, 1) := by decide +kernel
theorem dX0_letRows_1 : decode cX0_letRows 1 = .ok (.invokevirtual 95, 3) := by decide +kernel
theorem dX0_letRows_4 : decode cX0_letRows 4 = .ok (.aload_n 0, 1) := by decide +kernel
theorem dX0_letRows_5 : decode cX0_letRows 5 = .ok (.getfield 104, 3) := by decide +kernel
theorem dX0_letRows_8 : decode cX0_letRows 8 = .ok (.ireturn, 1) := by decide +kernel
theorem dX0_neededStraps_0 : decode cX0_neededStraps 0 = .ok (.aload_n 0, 1) := by decide +kernel
theorem dX0_neededStraps_1 : decode cX0_neededStraps 1 = .ok (.invokevirtual 95, 3) := by decide +kernel
theorem dX0_neededStraps_4 : decode cX0_neededStraps 4 = .ok (.aload_n 0, 1) := by decide +kernel
theorem dX0_neededStraps_5 : decode cX0_neededStraps 5 = .ok (.getfield 107, 3) := by decide +kernel
theorem dX0_neededStraps_8 : decode cX0_neededStraps 8 = .ok (.ireturn, 1) := by decide +kernel
theorem dX0_sweep_0 : decode cX0_sweep 0 = .ok (.aload_n 0, 1) := by decide +kernel
theorem dX0_sweep_1 : decode cX0_sweep 1 = .ok (.getfield 24, 3) := by decide +kernel
theorem dX0_sweep_4 : decode cX0_sweep 4 = .ok (.ifCond .ne 4, 3) := by decide +kernel
theorem dX0_sweep_7 : decode cX0_sweep 7 = .ok (.return_, 1) := by decide +kernel
theorem dX0_sweep_8 : decode cX0_sweep 8 = .ok (.aload_n 0, 1) := by decide +kernel
theorem dX0_sweep_9 : decode cX0_sweep 9 = .ok (.iconst 0, 1) := by decide +kernel
theorem dX0_sweep_10 : decode cX0_sweep 10 = .ok (.putfield 104, 3) := by decide +kernel
theorem dX0_sweep_13 : decode cX0_sweep 13 = .ok (.aload_n 0, 1) := by decide +kernel
theorem dX0_sweep_14 : decode cX0_sweep 14 = .ok (.iconst (-1), 1) := by decide +kernel
theorem dX0_sweep_15 : decode cX0_sweep 15 = .ok (.putfield 98, 3) := by decide +kernel
theorem dX0_sweep_18 : decode cX0_sweep 18 = .ok (.aload_n 0, 1) := by decide +kernel
theorem dX0_sweep_19 : decode cX0_sweep 19 = .ok (.iconst (-1), 1) := by decide +kernel
theorem dX0_sweep_20 : decode cX0_sweep 20 = .ok (.putfield 101, 3) := by decide +kernel
theorem dX0_sweep_23 : decode cX0_sweep 23 = .ok (.iconst 0, 1) := by decide +kernel
theorem dX0_sweep_24 : decode cX0_sweep 24 = .ok (.istore_n 1, 1) := by decide +kernel
theorem dX0_sweep_25 : decode cX0_sweep 25 = .ok (.iload_n 1, 1) := by decide +kernel
theorem dX0_sweep_26 : decode cX0_sweep 26 = .ok (.aload_n 0, 1) := by decide +kernel
theorem dX0_sweep_27 : decode cX0_sweep 27 = .ok (.getfield 28, 3) := by decide +kernel
theorem dX0_sweep_30 : decode cX0_sweep 30 = .ok (.arraylength, 1) := by decide +kernel
theorem dX0_sweep_31 : decode cX0_sweep 31 = .ok (.if_icmp .ge 16, 3) := by decide +kernel
theorem dX0_sweep_34 : decode cX0_sweep 34 = .ok (.aload_n 0, 1) := by decide +kernel
theorem dX0_sweep_35 : decode cX0_sweep 35 = .ok (.getfield 28, 3) := by decide +kernel
theorem dX0_sweep_38 : decode cX0_sweep 38 = .ok (.iload_n 1, 1) := by decide +kernel
theorem dX0_sweep_39 : decode cX0_sweep 39 = .ok (.iconst 0, 1) := by decide +kernel
theorem dX0_sweep_40 : decode cX0_sweep 40 = .ok (.iastore, 1) := by decide +kernel
theorem dX0_sweep_41 : decode cX0_sweep 41 = .ok (.iinc 1 1, 3) := by decide +kernel
theorem dX0_sweep_44 : decode cX0_sweep 44 = .ok (.goto (-19), 3) := by decide +kernel
theorem dX0_sweep_47 : decode cX0_sweep 47 = .ok (.iconst 0, 1) := by decide +kernel
theorem dX0_sweep_48 : decode cX0_sweep 48 = .ok (.istore_n 1, 1) := by decide +kernel
theorem dX0_sweep_49 : decode cX0_sweep 49 = .ok (.iload_n 1, 1) := by decide +kernel
theorem dX0_sweep_50 : decode cX0_sweep 50 = .ok (.aload_n 0, 1) := by decide +kernel
theorem dX0_sweep_51 : decode cX0_sweep 51 = .ok (.getfield 40, 3) := by decide +kernel
theorem dX0_sweep_54 : decode cX0_sweep 54 = .ok (.invokestatic 44, 3) := by decide +kernel
theorem dX0_sweep_57 : decode cX0_sweep 57 = .ok (.if_icmp .gt 87, 3) := by decide +kernel
theorem dX0_sweep_60 : decode cX0_sweep 60 = .ok (.aload_n 0, 1) := by decide +kernel
theorem dX0_sweep_61 : decode cX0_sweep 61 = .ok (.iload_n 1, 1) := by decide +kernel
theorem dX0_sweep_62 : decode cX0_sweep 62 = .ok (.iconst 0, 1) := by decide +kernel
theorem dX0_sweep_63 : decode cX0_sweep 63 = .ok (.invokevirtual 88, 3) := by decide +kernel
theorem dX0_sweep_66 : decode cX0_sweep 66 = .ok (.istore_n 2, 1) := by decide +kernel
theorem dX0_sweep_67 : decode cX0_sweep 67 = .ok (.aload_n 0, 1) := by decide +kernel
theorem dX0_sweep_68 : decode cX0_sweep 68 = .ok (.iload_n 1, 1) := by decide +kernel
theorem dX0_sweep_69 : decode cX0_sweep 69 = .ok (.invokevirtual 110, 3) := by decide +kernel
theorem dX0_sweep_72 : decode cX0_sweep 72 = .ok (.istore_n 3, 1) := by decide +kernel
theorem dX0_sweep_73 : decode cX0_sweep 73 = .ok (.aload_n 0, 1) := by decide +kernel
theorem dX0_sweep_74 : decode cX0_sweep 74 = .ok (.getfield 28, 3) := by decide +kernel
theorem dX0_sweep_77 : decode cX0_sweep 77 = .ok (.iload_n 2, 1) := by decide +kernel
theorem dX0_sweep_78 : decode cX0_sweep 78 = .ok (.iconst 1, 1) := by decide +kernel
theorem dX0_sweep_79 : decode cX0_sweep 79 = .ok (.invokestatic 67, 3) := by decide +kernel
theorem dX0_sweep_82 : decode cX0_sweep 82 = .ok (.iload_n 2, 1) := by decide +kernel
theorem dX0_sweep_83 : decode cX0_sweep 83 = .ok (.ifCond .ne 13, 3) := by decide +kernel
theorem dX0_sweep_86 : decode cX0_sweep 86 = .ok (.aload_n 0, 1) := by decide +kernel
theorem dX0_sweep_87 : decode cX0_sweep 87 = .ok (.dup, 1) := by decide +kernel
theorem dX0_sweep_88 : decode cX0_sweep 88 = .ok (.getfield 104, 3) := by decide +kernel
theorem dX0_sweep_91 : decode cX0_sweep 91 = .ok (.iconst 1, 1) := by decide +kernel
theorem dX0_sweep_92 : decode cX0_sweep 92 = .ok (.iadd, 1) := by decide +kernel
theorem dX0_sweep_93 : decode cX0_sweep 93 = .ok (.putfield 104, 3) := by decide +kernel
theorem dX0_sweep_96 : decode cX0_sweep 96 = .ok (.iload_n 2, 1) := by decide +kernel
theorem dX0_sweep_97 : decode cX0_sweep 97 = .ok (.ifCond .ne 20, 3) := by decide +kernel
theorem dX0_sweep_100 : decode cX0_sweep 100 = .ok (.iload_n 3, 1) := by decide +kernel
theorem dX0_sweep_101 : decode cX0_sweep 101 = .ok (.ifCond .ne 16, 3) := by decide +kernel
theorem dX0_sweep_104 : decode cX0_sweep 104 = .ok (.aload_n 0, 1) := by decide +kernel
theorem dX0_sweep_105 : decode cX0_sweep 105 = .ok (.getfield 98, 3) := by decide +kernel
theorem dX0_sweep_108 : decode cX0_sweep 108 = .ok (.iconst (-1), 1) := by decide +kernel
theorem dX0_sweep_109 : decode cX0_sweep 109 = .ok (.if_icmp .ne 8, 3) := by decide +kernel
theorem dX0_sweep_112 : decode cX0_sweep 112 = .ok (.aload_n 0, 1) := by decide +kernel
theorem dX0_sweep_113 : decode cX0_sweep 113 = .ok (.iload_n 1, 1) := by decide +kernel
theorem dX0_sweep_114 : decode cX0_sweep 114 = .ok (.putfield 98, 3) := by decide +kernel
theorem dX0_sweep_117 : decode cX0_sweep 117 = .ok (.iload_n 2, 1) := by decide +kernel
theorem dX0_sweep_118 : decode cX0_sweep 118 = .ok (.ifCond .eq 20, 3) := by decide +kernel
theorem dX0_sweep_121 : decode cX0_sweep 121 = .ok (.iload_n 3, 1) := by decide +kernel
theorem dX0_sweep_122 : decode cX0_sweep 122 = .ok (.ifCond .eq 16, 3) := by decide +kernel
theorem dX0_sweep_125 : decode cX0_sweep 125 = .ok (.aload_n 0, 1) := by decide +kernel
theorem dX0_sweep_126 : decode cX0_sweep 126 = .ok (.getfield 101, 3) := by decide +kernel
theorem dX0_sweep_129 : decode cX0_sweep 129 = .ok (.iconst (-1), 1) := by decide +kernel
theorem dX0_sweep_130 : decode cX0_sweep 130 = .ok (.if_icmp .ne 8, 3) := by decide +kernel
theorem dX0_sweep_133 : decode cX0_sweep 133 = .ok (.aload_n 0, 1) := by decide +kernel
theorem dX0_sweep_134 : decode cX0_sweep 134 = .ok (.iload_n 1, 1) := by decide +kernel
theorem dX0_sweep_135 : decode cX0_sweep 135 = .ok (.putfield 101, 3) := by decide +kernel
theorem dX0_sweep_138 : decode cX0_sweep 138 = .ok (.iinc 1 1, 3) := by decide +kernel
theorem dX0_sweep_141 : decode cX0_sweep 141 = .ok (.goto (-92), 3) := by decide +kernel
theorem dX0_sweep_144 : decode cX0_sweep 144 = .ok (.aload_n 0, 1) := by decide +kernel
theorem dX0_sweep_145 : decode cX0_sweep 145 = .ok (.aload_n 0, 1) := by decide +kernel
theorem dX0_sweep_146 : decode cX0_sweep 146 = .ok (.invokevirtual 113, 3) := by decide +kernel
theorem dX0_sweep_149 : decode cX0_sweep 149 = .ok (.putfield 107, 3) := by decide +kernel
theorem dX0_sweep_152 : decode cX0_sweep 152 = .ok (.aload_n 0, 1) := by decide +kernel
theorem dX0_sweep_153 : decode cX0_sweep 153 = .ok (.iconst 0, 1) := by decide +kernel
theorem dX0_sweep_154 : decode cX0_sweep 154 = .ok (.putfield 24, 3) := by decide +kernel
theorem dX0_sweep_157 : decode cX0_sweep 157 = .ok (.return_, 1) := by decide +kernel
theorem dX0_fewestStraps_0 : decode cX0_fewestStraps 0 = .ok (.aload_n 0, 1) := by decide +kernel
theorem dX0_fewestStraps_1 : decode cX0_fewestStraps 1 = .ok (.getfield 71, 3) := by decide +kernel
theorem dX0_fewestStraps_4 : decode cX0_fewestStraps 4 = .ok (.invokestatic 44, 3) := by decide +kernel
theorem dX0_fewestStraps_7 : decode cX0_fewestStraps 7 = .ok (.istore_n 1, 1) := by decide +kernel
theorem dX0_fewestStraps_8 : decode cX0_fewestStraps 8 = .ok (.iconst 0, 1) := by decide +kernel
theorem dX0_fewestStraps_9 : decode cX0_fewestStraps 9 = .ok (.istore_n 2, 1) := by decide +kernel
theorem dX0_fewestStraps_10 : decode cX0_fewestStraps 10 = .ok (.iload_n 2, 1) := by decide +kernel
theorem dX0_fewestStraps_11 : decode cX0_fewestStraps 11 = .ok (.aload_n 0, 1) := by decide +kernel
theorem dX0_fewestStraps_12 : decode cX0_fewestStraps 12 = .ok (.getfield 71, 3) := by decide +kernel
theorem dX0_fewestStraps_15 : decode cX0_fewestStraps 15 = .ok (.invokestatic 44, 3) := by decide +kernel
theorem dX0_fewestStraps_18 : decode cX0_fewestStraps 18 = .ok (.if_icmp .gt 27, 3) := by decide +kernel
theorem dX0_fewestStraps_21 : decode cX0_fewestStraps 21 = .ok (.iload_n 2, 1) := by decide +kernel
theorem dX0_fewestStraps_22 : decode cX0_fewestStraps 22 = .ok (.iload_n 1, 1) := by decide +kernel
theorem dX0_fewestStraps_23 : decode cX0_fewestStraps 23 = .ok (.invokestatic 117, 3) := by decide +kernel
theorem dX0_fewestStraps_26 : decode cX0_fewestStraps 26 = .ok (.ifCond .eq 13, 3) := by decide +kernel
theorem dX0_fewestStraps_29 : decode cX0_fewestStraps 29 = .ok (.aload_n 0, 1) := by decide +kernel
theorem dX0_fewestStraps_30 : decode cX0_fewestStraps 30 = .ok (.iload_n 2, 1) := by decide +kernel
theorem dX0_fewestStraps_31 : decode cX0_fewestStraps 31 = .ok (.invokevirtual 120, 3) := by decide +kernel
theorem dX0_fewestStraps_34 : decode cX0_fewestStraps 34 = .ok (.ifCond .eq 5, 3) := by decide +kernel
theorem dX0_fewestStraps_37 : decode cX0_fewestStraps 37 = .ok (.iload_n 2, 1) := by decide +kernel
theorem dX0_fewestStraps_38 : decode cX0_fewestStraps 38 = .ok (.istore_n 1, 1) := by decide +kernel
theorem dX0_fewestStraps_39 : decode cX0_fewestStraps 39 = .ok (.iinc 2 1, 3) := by decide +kernel
theorem dX0_fewestStraps_42 : decode cX0_fewestStraps 42 = .ok (.goto (-32), 3) := by decide +kernel
theorem dX0_fewestStraps_45 : decode cX0_fewestStraps 45 = .ok (.iload_n 1, 1) := by decide +kernel
theorem dX0_fewestStraps_46 : decode cX0_fewestStraps 46 = .ok (.ireturn, 1) := by decide +kernel
theorem dX0_holdsAll_0 : decode cX0_holdsAll 0 = .ok (.iconst 1, 1) := by decide +kernel
theorem dX0_holdsAll_1 : decode cX0_holdsAll 1 = .ok (.istore_n 2, 1) := by decide +kernel
theorem dX0_holdsAll_2 : decode cX0_holdsAll 2 = .ok (.iload_n 2, 1) := by decide +kernel
theorem dX0_holdsAll_3 : decode cX0_holdsAll 3 = .ok (.aload_n 0, 1) := by decide +kernel
theorem dX0_holdsAll_4 : decode cX0_holdsAll 4 = .ok (.getfield 71, 3) := by decide +kernel
theorem dX0_holdsAll_7 : decode cX0_holdsAll 7 = .ok (.invokestatic 44, 3) := by decide +kernel
theorem dX0_holdsAll_10 : decode cX0_holdsAll 10 = .ok (.if_icmp .gt 29, 3) := by decide +kernel
theorem dX0_holdsAll_13 : decode cX0_holdsAll 13 = .ok (.aload_n 0, 1) := by decide +kernel
theorem dX0_holdsAll_14 : decode cX0_holdsAll 14 = .ok (.getfield 28, 3) := by decide +kernel
theorem dX0_holdsAll_17 : decode cX0_holdsAll 17 = .ok (.iload_n 2, 1) := by decide +kernel
theorem dX0_holdsAll_18 : decode cX0_holdsAll 18 = .ok (.invokestatic 74, 3) := by decide +kernel
theorem dX0_holdsAll_21 : decode cX0_holdsAll 21 = .ok (.iconst 1, 1) := by decide +kernel
theorem dX0_holdsAll_22 : decode cX0_holdsAll 22 = .ok (.if_icmp .ne 11, 3) := by decide +kernel
theorem dX0_holdsAll_25 : decode cX0_holdsAll 25 = .ok (.iload_n 2, 1) := by decide +kernel
theorem dX0_holdsAll_26 : decode cX0_holdsAll 26 = .ok (.iload_n 1, 1) := by decide +kernel
theorem dX0_holdsAll_27 : decode cX0_holdsAll 27 = .ok (.iand, 1) := by decide +kernel
theorem dX0_holdsAll_28 : decode cX0_holdsAll 28 = .ok (.ifCond .ne 5, 3) := by decide +kernel
theorem dX0_holdsAll_31 : decode cX0_holdsAll 31 = .ok (.iconst 0, 1) := by decide +kernel
theorem dX0_holdsAll_32 : decode cX0_holdsAll 32 = .ok (.ireturn, 1) := by decide +kernel
theorem dX0_holdsAll_33 : decode cX0_holdsAll 33 = .ok (.iinc 2 1, 3) := by decide +kernel
theorem dX0_holdsAll_36 : decode cX0_holdsAll 36 = .ok (.goto (-34), 3) := by decide +kernel
theorem dX0_holdsAll_39 : decode cX0_holdsAll 39 = .ok (.iconst 1, 1) := by decide +kernel
theorem dX0_holdsAll_40 : decode cX0_holdsAll 40 = .ok (.ireturn, 1) := by decide +kernel
theorem dX0_waysToPull_0 : decode cX0_waysToPull 0 = .ok (.aload_n 0, 1) := by decide +kernel
theorem dX0_waysToPull_1 : decode cX0_waysToPull 1 = .ok (.iload_n 1, 1) := by decide +kernel
theorem dX0_waysToPull_2 : decode cX0_waysToPull 2 = .ok (.invokevirtual 55, 3) := by decide +kernel
theorem dX0_waysToPull_5 : decode cX0_waysToPull 5 = .ok (.ifCond .eq 12, 3) := by decide +kernel
theorem dX0_waysToPull_8 : decode cX0_waysToPull 8 = .ok (.iload_n 1, 1) := by decide +kernel
theorem dX0_waysToPull_9 : decode cX0_waysToPull 9 = .ok (.invokestatic 62, 3) := by decide +kernel
theorem dX0_waysToPull_12 : decode cX0_waysToPull 12 = .ok (.bipush 10, 2) := by decide +kernel
theorem dX0_waysToPull_14 : decode cX0_waysToPull 14 = .ok (.if_icmp .le 5, 3) := by decide +kernel
theorem dX0_waysToPull_17 : decode cX0_waysToPull 17 = .ok (.iconst (-1), 1) := by decide +kernel
theorem dX0_waysToPull_18 : decode cX0_waysToPull 18 = .ok (.ireturn, 1) := by decide +kernel
theorem dX0_waysToPull_19 : decode cX0_waysToPull 19 = .ok (.aload_n 0, 1) := by decide +kernel
theorem dX0_waysToPull_20 : decode cX0_waysToPull 20 = .ok (.iload_n 1, 1) := by decide +kernel
theorem dX0_waysToPull_21 : decode cX0_waysToPull 21 = .ok (.invokevirtual 123, 3) := by decide +kernel
theorem dX0_waysToPull_24 : decode cX0_waysToPull 24 = .ok (.ifCond .ne 5, 3) := by decide +kernel
theorem dX0_waysToPull_27 : decode cX0_waysToPull 27 = .ok (.iconst 0, 1) := by decide +kernel
theorem dX0_waysToPull_28 : decode cX0_waysToPull 28 = .ok (.ireturn, 1) := by decide +kernel
theorem dX0_waysToPull_29 : decode cX0_waysToPull 29 = .ok (.iconst 1, 1) := by decide +kernel
theorem dX0_waysToPull_30 : decode cX0_waysToPull 30 = .ok (.istore_n 2, 1) := by decide +kernel
theorem dX0_waysToPull_31 : decode cX0_waysToPull 31 = .ok (.iconst 2, 1) := by decide +kernel
theorem dX0_waysToPull_32 : decode cX0_waysToPull 32 = .ok (.istore_n 3, 1) := by decide +kernel
theorem dX0_waysToPull_33 : decode cX0_waysToPull 33 = .ok (.iload_n 3, 1) := by decide +kernel
theorem dX0_waysToPull_34 : decode cX0_waysToPull 34 = .ok (.iload_n 1, 1) := by decide +kernel
theorem dX0_waysToPull_35 : decode cX0_waysToPull 35 = .ok (.invokestatic 62, 3) := by decide +kernel
theorem dX0_waysToPull_38 : decode cX0_waysToPull 38 = .ok (.if_icmp .gt 13, 3) := by decide +kernel
theorem dX0_waysToPull_41 : decode cX0_waysToPull 41 = .ok (.iload_n 2, 1) := by decide +kernel
theorem dX0_waysToPull_42 : decode cX0_waysToPull 42 = .ok (.iload_n 3, 1) := by decide +kernel
theorem dX0_waysToPull_43 : decode cX0_waysToPull 43 = .ok (.imul, 1) := by decide +kernel
theorem dX0_waysToPull_44 : decode cX0_waysToPull 44 = .ok (.istore_n 2, 1) := by decide +kernel
theorem dX0_waysToPull_45 : decode cX0_waysToPull 45 = .ok (.iinc 3 1, 3) := by decide +kernel
theorem dX0_waysToPull_48 : decode cX0_waysToPull 48 = .ok (.goto (-15), 3) := by decide +kernel
theorem dX0_waysToPull_51 : decode cX0_waysToPull 51 = .ok (.iload_n 2, 1) := by decide +kernel
theorem dX0_waysToPull_52 : decode cX0_waysToPull 52 = .ok (.ireturn, 1) := by decide +kernel
theorem dX0_shuffle_0 : decode cX0_shuffle 0 = .ok (.iconst 0, 1) := by decide +kernel
theorem dX0_shuffle_1 : decode cX0_shuffle 1 = .ok (.istore 4, 2) := by decide +kernel
theorem dX0_shuffle_3 : decode cX0_shuffle 3 = .ok (.iconst 0, 1) := by decide +kernel
theorem dX0_shuffle_4 : decode cX0_shuffle 4 = .ok (.istore 5, 2) := by decide +kernel
theorem dX0_shuffle_6 : decode cX0_shuffle 6 = .ok (.iload 5, 2) := by decide +kernel
theorem dX0_shuffle_8 : decode cX0_shuffle 8 = .ok (.aload_n 0, 1) := by decide +kernel
theorem dX0_shuffle_9 : decode cX0_shuffle 9 = .ok (.getfield 40, 3) := by decide +kernel
theorem dX0_shuffle_12 : decode cX0_shuffle 12 = .ok (.if_icmp .ge 36, 3) := by decide +kernel
theorem dX0_shuffle_15 : decode cX0_shuffle 15 = .ok (.aload_n 0, 1) := by decide +kernel
theorem dX0_shuffle_16 : decode cX0_shuffle 16 = .ok (.iload_n 1, 1) := by decide +kernel
theorem dX0_shuffle_17 : decode cX0_shuffle 17 = .ok (.invokevirtual 82, 3) := by decide +kernel
theorem dX0_shuffle_20 : decode cX0_shuffle 20 = .ok (.iload 5, 2) := by decide +kernel
theorem dX0_shuffle_22 : decode cX0_shuffle 22 = .ok (.invokestatic 78, 3) := by decide +kernel
theorem dX0_shuffle_25 : decode cX0_shuffle 25 = .ok (.ifCond .eq 17, 3) := by decide +kernel
theorem dX0_shuffle_28 : decode cX0_shuffle 28 = .ok (.aload_n 0, 1) := by decide +kernel
theorem dX0_shuffle_29 : decode cX0_shuffle 29 = .ok (.getfield 31, 3) := by decide +kernel
theorem dX0_shuffle_32 : decode cX0_shuffle 32 = .ok (.iload 4, 2) := by decide +kernel
theorem dX0_shuffle_34 : decode cX0_shuffle 34 = .ok (.iload 5, 2) := by decide +kernel
theorem dX0_shuffle_36 : decode cX0_shuffle 36 = .ok (.invokestatic 67, 3) := by decide +kernel
theorem dX0_shuffle_39 : decode cX0_shuffle 39 = .ok (.iinc 4 1, 3) := by decide +kernel
theorem dX0_shuffle_42 : decode cX0_shuffle 42 = .ok (.iinc 5 1, 3) := by decide +kernel
theorem dX0_shuffle_45 : decode cX0_shuffle 45 = .ok (.goto (-39), 3) := by decide +kernel
theorem dX0_shuffle_48 : decode cX0_shuffle 48 = .ok (.lload_n 2, 1) := by decide +kernel
theorem dX0_shuffle_49 : decode cX0_shuffle 49 = .ok (.lstore 5, 2) := by decide +kernel
theorem dX0_shuffle_51 : decode cX0_shuffle 51 = .ok (.iload 4, 2) := by decide +kernel
theorem dX0_shuffle_53 : decode cX0_shuffle 53 = .ok (.iconst 1, 1) := by decide +kernel
theorem dX0_shuffle_54 : decode cX0_shuffle 54 = .ok (.isub, 1) := by decide +kernel
theorem dX0_shuffle_55 : decode cX0_shuffle 55 = .ok (.istore 7, 2) := by decide +kernel
theorem dX0_shuffle_57 : decode cX0_shuffle 57 = .ok (.iload 7, 2) := by decide +kernel
theorem dX0_shuffle_59 : decode cX0_shuffle 59 = .ok (.iconst 1, 1) := by decide +kernel
theorem dX0_shuffle_60 : decode cX0_shuffle 60 = .ok (.if_icmp .lt 42, 3) := by decide +kernel
theorem dX0_shuffle_63 : decode cX0_shuffle 63 = .ok (.lload 5, 2) := by decide +kernel
theorem dX0_shuffle_65 : decode cX0_shuffle 65 = .ok (.ldc2_w 126, 3) := by decide +kernel
theorem dX0_shuffle_68 : decode cX0_shuffle 68 = .ok (.lmul, 1) := by decide +kernel
theorem dX0_shuffle_69 : decode cX0_shuffle 69 = .ok (.ldc2_w 128, 3) := by decide +kernel
theorem dX0_shuffle_72 : decode cX0_shuffle 72 = .ok (.ladd, 1) := by decide +kernel
theorem dX0_shuffle_73 : decode cX0_shuffle 73 = .ok (.lstore 5, 2) := by decide +kernel
theorem dX0_shuffle_75 : decode cX0_shuffle 75 = .ok (.aload_n 0, 1) := by decide +kernel
theorem dX0_shuffle_76 : decode cX0_shuffle 76 = .ok (.getfield 31, 3) := by decide +kernel
theorem dX0_shuffle_79 : decode cX0_shuffle 79 = .ok (.iload 7, 2) := by decide +kernel
theorem dX0_shuffle_81 : decode cX0_shuffle 81 = .ok (.lload 5, 2) := by decide +kernel
theorem dX0_shuffle_83 : decode cX0_shuffle 83 = .ok (.bipush 33, 2) := by decide +kernel
theorem dX0_shuffle_85 : decode cX0_shuffle 85 = .ok (.lushr, 1) := by decide +kernel
theorem dX0_shuffle_86 : decode cX0_shuffle 86 = .ok (.iload 7, 2) := by decide +kernel
theorem dX0_shuffle_88 : decode cX0_shuffle 88 = .ok (.iconst 1, 1) := by decide +kernel
theorem dX0_shuffle_89 : decode cX0_shuffle 89 = .ok (.iadd, 1) := by decide +kernel
theorem dX0_shuffle_90 : decode cX0_shuffle 90 = .ok (.i2l, 1) := by decide +kernel
theorem dX0_shuffle_91 : decode cX0_shuffle 91 = .ok (.lrem, 1) := by decide +kernel
theorem dX0_shuffle_92 : decode cX0_shuffle 92 = .ok (.l2i, 1) := by decide +kernel
theorem dX0_shuffle_93 : decode cX0_shuffle 93 = .ok (.invokestatic 130, 3) := by decide +kernel
theorem dX0_shuffle_96 : decode cX0_shuffle 96 = .ok (.iinc 7 (-1), 3) := by decide +kernel
theorem dX0_shuffle_99 : decode cX0_shuffle 99 = .ok (.goto (-42), 3) := by decide +kernel
theorem dX0_shuffle_102 : decode cX0_shuffle 102 = .ok (.iload 4, 2) := by decide +kernel
theorem dX0_shuffle_104 : decode cX0_shuffle 104 = .ok (.ireturn, 1) := by decide +kernel
theorem dX0_shuffledAt_0 : decode cX0_shuffledAt 0 = .ok (.aload_n 0, 1) := by decide +kernel
theorem dX0_shuffledAt_1 : decode cX0_shuffledAt 1 = .ok (.getfield 31, 3) := by decide +kernel
theorem dX0_shuffledAt_4 : decode cX0_shuffledAt 4 = .ok (.iload_n 1, 1) := by decide +kernel
theorem dX0_shuffledAt_5 : decode cX0_shuffledAt 5 = .ok (.iload_n 2, 1) := by decide +kernel
theorem dX0_shuffledAt_6 : decode cX0_shuffledAt 6 = .ok (.invokestatic 133, 3) := by decide +kernel
theorem dX0_shuffledAt_9 : decode cX0_shuffledAt 9 = .ok (.invokestatic 74, 3) := by decide +kernel
theorem dX0_shuffledAt_12 : decode cX0_shuffledAt 12 = .ok (.ireturn, 1) := by decide +kernel
theorem dX1_at_0 : decode cX1_at 0 = .ok (.aload_n 0, 1) := by decide +kernel
theorem dX1_at_1 : decode cX1_at 1 = .ok (.ifnull 19, 3) := by decide +kernel
theorem dX1_at_4 : decode cX1_at 4 = .ok (.iload_n 1, 1) := by decide +kernel
theorem dX1_at_5 : decode cX1_at 5 = .ok (.ifCond .lt 15, 3) := by decide +kernel
theorem dX1_at_8 : decode cX1_at 8 = .ok (.iload_n 1, 1) := by decide +kernel
theorem dX1_at_9 : decode cX1_at 9 = .ok (.aload_n 0, 1) := by decide +kernel
theorem dX1_at_10 : decode cX1_at 10 = .ok (.arraylength, 1) := by decide +kernel
theorem dX1_at_11 : decode cX1_at 11 = .ok (.if_icmp .ge 9, 3) := by decide +kernel
theorem dX1_at_14 : decode cX1_at 14 = .ok (.aload_n 0, 1) := by decide +kernel
theorem dX1_at_15 : decode cX1_at 15 = .ok (.iload_n 1, 1) := by decide +kernel
theorem dX1_at_16 : decode cX1_at 16 = .ok (.iaload, 1) := by decide +kernel
theorem dX1_at_17 : decode cX1_at 17 = .ok (.goto 4, 3) := by decide +kernel
theorem dX1_at_20 : decode cX1_at 20 = .ok (.iconst 0, 1) := by decide +kernel
theorem dX1_at_21 : decode cX1_at 21 = .ok (.ireturn, 1) := by decide +kernel
theorem dX1_put_0 : decode cX1_put 0 = .ok (.aload_n 0, 1) := by decide +kernel
theorem dX1_put_1 : decode cX1_put 1 = .ok (.ifnull 17, 3) := by decide +kernel
theorem dX1_put_4 : decode cX1_put 4 = .ok (.iload_n 1, 1) := by decide +kernel
theorem dX1_put_5 : decode cX1_put 5 = .ok (.ifCond .lt 13, 3) := by decide +kernel
theorem dX1_put_8 : decode cX1_put 8 = .ok (.iload_n 1, 1) := by decide +kernel
theorem dX1_put_9 : decode cX1_put 9 = .ok (.aload_n 0, 1) := by decide +kernel
theorem dX1_put_10 : decode cX1_put 10 = .ok (.arraylength, 1) := by decide +kernel
theorem dX1_put_11 : decode cX1_put 11 = .ok (.if_icmp .ge 7, 3) := by decide +kernel
theorem dX1_put_14 : decode cX1_put 14 = .ok (.aload_n 0, 1) := by decide +kernel
theorem dX1_put_15 : decode cX1_put 15 = .ok (.iload_n 1, 1) := by decide +kernel
theorem dX1_put_16 : decode cX1_put 16 = .ok (.iload_n 2, 1) := by decide +kernel
theorem dX1_put_17 : decode cX1_put 17 = .ok (.iastore, 1) := by decide +kernel
theorem dX1_put_18 : decode cX1_put 18 = .ok (.return_, 1) := by decide +kernel
theorem dX1_swap_0 : decode cX1_swap 0 = .ok (.aload_n 0, 1) := by decide +kernel
theorem dX1_swap_1 : decode cX1_swap 1 = .ok (.ifnull 37, 3) := by decide +kernel
theorem dX1_swap_4 : decode cX1_swap 4 = .ok (.iload_n 1, 1) := by decide +kernel
theorem dX1_swap_5 : decode cX1_swap 5 = .ok (.ifCond .lt 33, 3) := by decide +kernel
theorem dX1_swap_8 : decode cX1_swap 8 = .ok (.iload_n 1, 1) := by decide +kernel
theorem dX1_swap_9 : decode cX1_swap 9 = .ok (.aload_n 0, 1) := by decide +kernel
theorem dX1_swap_10 : decode cX1_swap 10 = .ok (.arraylength, 1) := by decide +kernel
theorem dX1_swap_11 : decode cX1_swap 11 = .ok (.if_icmp .ge 27, 3) := by decide +kernel
theorem dX1_swap_14 : decode cX1_swap 14 = .ok (.iload_n 2, 1) := by decide +kernel
theorem dX1_swap_15 : decode cX1_swap 15 = .ok (.ifCond .lt 23, 3) := by decide +kernel
theorem dX1_swap_18 : decode cX1_swap 18 = .ok (.iload_n 2, 1) := by decide +kernel
theorem dX1_swap_19 : decode cX1_swap 19 = .ok (.aload_n 0, 1) := by decide +kernel
theorem dX1_swap_20 : decode cX1_swap 20 = .ok (.arraylength, 1) := by decide +kernel
theorem dX1_swap_21 : decode cX1_swap 21 = .ok (.if_icmp .ge 17, 3) := by decide +kernel
theorem dX1_swap_24 : decode cX1_swap 24 = .ok (.aload_n 0, 1) := by decide +kernel
theorem dX1_swap_25 : decode cX1_swap 25 = .ok (.iload_n 1, 1) := by decide +kernel
theorem dX1_swap_26 : decode cX1_swap 26 = .ok (.iaload, 1) := by decide +kernel
theorem dX1_swap_27 : decode cX1_swap 27 = .ok (.istore_n 3, 1) := by decide +kernel
theorem dX1_swap_28 : decode cX1_swap 28 = .ok (.aload_n 0, 1) := by decide +kernel
theorem dX1_swap_29 : decode cX1_swap 29 = .ok (.iload_n 1, 1) := by decide +kernel
theorem dX1_swap_30 : decode cX1_swap 30 = .ok (.aload_n 0, 1) := by decide +kernel
theorem dX1_swap_31 : decode cX1_swap 31 = .ok (.iload_n 2, 1) := by decide +kernel
theorem dX1_swap_32 : decode cX1_swap 32 = .ok (.iaload, 1) := by decide +kernel
theorem dX1_swap_33 : decode cX1_swap 33 = .ok (.iastore, 1) := by decide +kernel
theorem dX1_swap_34 : decode cX1_swap 34 = .ok (.aload_n 0, 1) := by decide +kernel
theorem dX1_swap_35 : decode cX1_swap 35 = .ok (.iload_n 2, 1) := by decide +kernel
theorem dX1_swap_36 : decode cX1_swap 36 = .ok (.iload_n 3, 1) := by decide +kernel
theorem dX1_swap_37 : decode cX1_swap 37 = .ok (.iastore, 1) := by decide +kernel
theorem dX1_swap_38 : decode cX1_swap 38 = .ok (.return_, 1) := by decide +kernel
theorem dX1_within_0 : decode cX1_within 0 = .ok (.iload_n 0, 1) := by decide +kernel
theorem dX1_within_1 : decode cX1_within 1 = .ok (.iload_n 1, 1) := by decide +kernel
theorem dX1_within_2 : decode cX1_within 2 = .ok (.if_icmp .lt 12, 3) := by decide +kernel
theorem dX1_within_5 : decode cX1_within 5 = .ok (.iload_n 0, 1) := by decide +kernel
theorem dX1_within_6 : decode cX1_within 6 = .ok (.iload_n 2, 1) := by decide +kernel
theorem dX1_within_7 : decode cX1_within 7 = .ok (.if_icmp .gt 7, 3) := by decide +kernel
theorem dX1_within_10 : decode cX1_within 10 = .ok (.iconst 1, 1) := by decide +kernel
theorem dX1_within_11 : decode cX1_within 11 = .ok (.goto 4, 3) := by decide +kernel
theorem dX1_within_14 : decode cX1_within 14 = .ok (.iconst 0, 1) := by decide +kernel
theorem dX1_within_15 : decode cX1_within 15 = .ok (.ireturn, 1) := by decide +kernel
theorem dX1_nearest_0 : decode cX1_nearest 0 = .ok (.iload_n 1, 1) := by decide +kernel
theorem dX1_nearest_1 : decode cX1_nearest 1 = .ok (.iload_n 2, 1) := by decide +kernel
theorem dX1_nearest_2 : decode cX1_nearest 2 = .ok (.iload_n 0, 1) := by decide +kernel
theorem dX1_nearest_3 : decode cX1_nearest 3 = .ok (.invokestatic 7, 3) := by decide +kernel
theorem dX1_nearest_6 : decode cX1_nearest 6 = .ok (.invokestatic 13, 3) := by decide +kernel
theorem dX1_nearest_9 : decode cX1_nearest 9 = .ok (.ireturn, 1) := by decide +kernel
theorem dX1_modulo_0 : decode cX1_modulo 0 = .ok (.iload_n 1, 1) := by decide +kernel
theorem dX1_modulo_1 : decode cX1_modulo 1 = .ok (.ifCond .le 11, 3) := by decide +kernel
theorem dX1_modulo_4 : decode cX1_modulo 4 = .ok (.iload_n 0, 1) := by decide +kernel
theorem dX1_modulo_5 : decode cX1_modulo 5 = .ok (.iload_n 1, 1) := by decide +kernel
theorem dX1_modulo_6 : decode cX1_modulo 6 = .ok (.invokestatic 16, 3) := by decide +kernel
theorem dX1_modulo_9 : decode cX1_modulo 9 = .ok (.goto 4, 3) := by decide +kernel
theorem dX1_modulo_12 : decode cX1_modulo 12 = .ok (.iconst 0, 1) := by decide +kernel
theorem dX1_modulo_13 : decode cX1_modulo 13 = .ok (.ireturn, 1) := by decide +kernel
theorem dX1_bit_0 : decode cX1_bit 0 = .ok (.iload_n 0, 1) := by decide +kernel
theorem dX1_bit_1 : decode cX1_bit 1 = .ok (.ifCond .lt 15, 3) := by decide +kernel
theorem dX1_bit_4 : decode cX1_bit 4 = .ok (.iload_n 0, 1) := by decide +kernel
theorem dX1_bit_5 : decode cX1_bit 5 = .ok (.bipush 30, 2) := by decide +kernel
theorem dX1_bit_7 : decode cX1_bit 7 = .ok (.if_icmp .gt 9, 3) := by decide +kernel
theorem dX1_bit_10 : decode cX1_bit 10 = .ok (.iconst 1, 1) := by decide +kernel
theorem dX1_bit_11 : decode cX1_bit 11 = .ok (.iload_n 0, 1) := by decide +kernel
theorem dX1_bit_12 : decode cX1_bit 12 = .ok (.ishl, 1) := by decide +kernel
theorem dX1_bit_13 : decode cX1_bit 13 = .ok (.goto 4, 3) := by decide +kernel
theorem dX1_bit_16 : decode cX1_bit 16 = .ok (.iconst 0, 1) := by decide +kernel
theorem dX1_bit_17 : decode cX1_bit 17 = .ok (.ireturn, 1) := by decide +kernel
theorem dX1_all_0 : decode cX1_all 0 = .ok (.iload_n 0, 1) := by decide +kernel
theorem dX1_all_1 : decode cX1_all 1 = .ok (.invokestatic 19, 3) := by decide +kernel
theorem dX1_all_4 : decode cX1_all 4 = .ok (.iconst 1, 1) := by decide +kernel
theorem dX1_all_5 : decode cX1_all 5 = .ok (.isub, 1) := by decide +kernel
theorem dX1_all_6 : decode cX1_all 6 = .ok (.ireturn, 1) := by decide +kernel
theorem dX1_has_0 : decode cX1_has 0 = .ok (.iload_n 1, 1) := by decide +kernel
theorem dX1_has_1 : decode cX1_has 1 = .ok (.ifCond .lt 21, 3) := by decide +kernel
theorem dX1_has_4 : decode cX1_has 4 = .ok (.iload_n 1, 1) := by decide +kernel
theorem dX1_has_5 : decode cX1_has 5 = .ok (.bipush 30, 2) := by decide +kernel
theorem dX1_has_7 : decode cX1_has 7 = .ok (.if_icmp .gt 15, 3) := by decide +kernel
theorem dX1_has_10 : decode cX1_has 10 = .ok (.iload_n 0, 1) := by decide +kernel
theorem dX1_has_11 : decode cX1_has 11 = .ok (.iload_n 1, 1) := by decide +kernel
theorem dX1_has_12 : decode cX1_has 12 = .ok (.ishr, 1) := by decide +kernel
theorem dX1_has_13 : decode cX1_has 13 = .ok (.iconst 1, 1) := by decide +kernel
theorem dX1_has_14 : decode cX1_has 14 = .ok (.iand, 1) := by decide +kernel
theorem dX1_has_15 : decode cX1_has 15 = .ok (.ifCond .eq 7, 3) := by decide +kernel
theorem dX1_has_18 : decode cX1_has 18 = .ok (.iconst 1, 1) := by decide +kernel
theorem dX1_has_19 : decode cX1_has 19 = .ok (.goto 4, 3) := by decide +kernel
theorem dX1_has_22 : decode cX1_has 22 = .ok (.iconst 0, 1) := by decide +kernel
theorem dX1_has_23 : decode cX1_has 23 = .ok (.ireturn, 1) := by decide +kernel
theorem dX1_better_0 : decode cX1_better 0 = .ok (.iload_n 0, 1) := by decide +kernel
theorem dX1_better_1 : decode cX1_better 1 = .ok (.iload_n 1, 1) := by decide +kernel
theorem dX1_better_2 : decode cX1_better 2 = .ok (.ixor, 1) := by decide +kernel
theorem dX1_better_3 : decode cX1_better 3 = .ok (.istore_n 2, 1) := by decide +kernel
theorem dX1_better_4 : decode cX1_better 4 = .ok (.iload_n 2, 1) := by decide +kernel
theorem dX1_better_5 : decode cX1_better 5 = .ok (.iload_n 2, 1) := by decide +kernel
theorem dX1_better_6 : decode cX1_better 6 = .ok (.ineg, 1) := by decide +kernel
theorem dX1_better_7 : decode cX1_better 7 = .ok (.iand, 1) := by decide +kernel
theorem dX1_better_8 : decode cX1_better 8 = .ok (.istore_n 3, 1) := by decide +kernel
theorem dX1_better_9 : decode cX1_better 9 = .ok (.iload_n 1, 1) := by decide +kernel
theorem dX1_better_10 : decode cX1_better 10 = .ok (.invokestatic 25, 3) := by decide +kernel
theorem dX1_better_13 : decode cX1_better 13 = .ok (.iload_n 0, 1) := by decide +kernel
theorem dX1_better_14 : decode cX1_better 14 = .ok (.invokestatic 25, 3) := by decide +kernel
theorem dX1_better_17 : decode cX1_better 17 = .ok (.isub, 1) := by decide +kernel
theorem dX1_better_18 : decode cX1_better 18 = .ok (.istore 4, 2) := by decide +kernel
theorem dX1_better_20 : decode cX1_better 20 = .ok (.iload 4, 2) := by decide +kernel
theorem dX1_better_22 : decode cX1_better 22 = .ok (.ifCond .gt 14, 3) := by decide +kernel
theorem dX1_better_25 : decode cX1_better 25 = .ok (.iload 4, 2) := by decide +kernel
theorem dX1_better_27 : decode cX1_better 27 = .ok (.ifCond .ne 13, 3) := by decide +kernel
theorem dX1_better_30 : decode cX1_better 30 = .ok (.iload_n 0, 1) := by decide +kernel
theorem dX1_better_31 : decode cX1_better 31 = .ok (.iload_n 3, 1) := by decide +kernel
theorem dX1_better_32 : decode cX1_better 32 = .ok (.iand, 1) := by decide +kernel
theorem dX1_better_33 : decode cX1_better 33 = .ok (.ifCond .eq 7, 3) := by decide +kernel
theorem dX1_better_36 : decode cX1_better 36 = .ok (.iconst 1, 1) := by decide +kernel
theorem dX1_better_37 : decode cX1_better 37 = .ok (.goto 4, 3) := by decide +kernel
theorem dX1_better_40 : decode cX1_better 40 = .ok (.iconst 0, 1) := by decide +kernel
theorem dX1_better_41 : decode cX1_better 41 = .ok (.ireturn, 1) := by decide +kernel
theorem dX2_init_0 : decode cX2_init 0 = .ok (.aload_n 0, 1) := by decide +kernel
theorem dX2_init_1 : decode cX2_init 1 = .ok (.invokespecial 3, 3) := by decide +kernel
theorem dX2_init_4 : decode cX2_init 4 = .ok (.aload_n 0, 1) := by decide +kernel
theorem dX2_init_5 : decode cX2_init 5 = .ok (.bipush 16, 2) := by decide +kernel
theorem dX2_init_7 : decode cX2_init 7 = .ok (.newarray .int, 2) := by decide +kernel
theorem dX2_init_9 : decode cX2_init 9 = .ok (.putfield 11, 3) := by decide +kernel
theorem dX2_init_12 : decode cX2_init 12 = .ok (.aload_n 0, 1) := by decide +kernel
theorem dX2_init_13 : decode cX2_init 13 = .ok (.bipush 16, 2) := by decide +kernel
theorem dX2_init_15 : decode cX2_init 15 = .ok (.newarray .int, 2) := by decide +kernel
theorem dX2_init_17 : decode cX2_init 17 = .ok (.putfield 17, 3) := by decide +kernel
theorem dX2_init_20 : decode cX2_init 20 = .ok (.aload_n 0, 1) := by decide +kernel
theorem dX2_init_21 : decode cX2_init 21 = .ok (.bipush 16, 2) := by decide +kernel
theorem dX2_init_23 : decode cX2_init 23 = .ok (.newarray .int, 2) := by decide +kernel
theorem dX2_init_25 : decode cX2_init 25 = .ok (.putfield 20, 3) := by decide +kernel
theorem dX2_init_28 : decode cX2_init 28 = .ok (.aload_n 0, 1) := by decide +kernel
theorem dX2_init_29 : decode cX2_init 29 = .ok (.bipush 16, 2) := by decide +kernel
theorem dX2_init_31 : decode cX2_init 31 = .ok (.newarray .int, 2) := by decide +kernel
theorem dX2_init_33 : decode cX2_init 33 = .ok (.putfield 23, 3) := by decide +kernel
theorem dX2_init_36 : decode cX2_init 36 = .ok (.aload_n 0, 1) := by decide +kernel
theorem dX2_init_37 : decode cX2_init 37 = .ok (.bipush 16, 2) := by decide +kernel
theorem dX2_init_39 : decode cX2_init 39 = .ok (.newarray .int, 2) := by decide +kernel
theorem dX2_init_41 : decode cX2_init 41 = .ok (.putfield 26, 3) := by decide +kernel
theorem dX2_init_44 : decode cX2_init 44 = .ok (.aload_n 0, 1) := by decide +kernel
theorem dX2_init_45 : decode cX2_init 45 = .ok (.bipush 16, 2) := by decide +kernel
theorem dX2_init_47 : decode cX2_init 47 = .ok (.newarray .int, 2) := by decide +kernel
theorem dX2_init_49 : decode cX2_init 49 = .ok (.putfield 29, 3) := by decide +kernel
theorem dX2_init_52 : decode cX2_init 52 = .ok (.aload_n 0, 1) := by decide +kernel
theorem dX2_init_53 : decode cX2_init 53 = .ok (.aload_n 1, 1) := by decide +kernel
theorem dX2_init_54 : decode cX2_init 54 = .ok (.putfield 32, 3) := by decide +kernel
theorem dX2_init_57 : decode cX2_init 57 = .ok (.aload_n 0, 1) := by decide +kernel
theorem dX2_init_58 : decode cX2_init 58 = .ok (.aload_n 2, 1) := by decide +kernel
theorem dX2_init_59 : decode cX2_init 59 = .ok (.putfield 36, 3) := by decide +kernel
theorem dX2_init_62 : decode cX2_init 62 = .ok (.return_, 1) := by decide +kernel
theorem dX2_low_0 : decode cX2_low 0 = .ok (.aload_n 0, 1) := by decide +kernel
theorem dX2_low_1 : decode cX2_low 1 = .ok (.getfield 26, 3) := by decide +kernel
theorem dX2_low_4 : decode cX2_low 4 = .ok (.iload_n 1, 1) := by decide +kernel
theorem dX2_low_5 : decode cX2_low 5 = .ok (.invokestatic 40, 3) := by decide +kernel
theorem dX2_low_8 : decode cX2_low 8 = .ok (.ireturn, 1) := by decide +kernel
theorem dX2_high_0 : decode cX2_high 0 = .ok (.aload_n 0, 1) := by decide +kernel
theorem dX2_high_1 : decode cX2_high 1 = .ok (.getfield 29, 3) := by decide +kernel
theorem dX2_high_4 : decode cX2_high 4 = .ok (.iload_n 1, 1) := by decide +kernel
theorem dX2_high_5 : decode cX2_high 5 = .ok (.invokestatic 40, 3) := by decide +kernel
theorem dX2_high_8 : decode cX2_high 8 = .ok (.ireturn, 1) := by decide +kernel
theorem dX2_setsOf_0 : decode cX2_setsOf 0 = .ok (.aload_n 0, 1) := by decide +kernel
theorem dX2_setsOf_1 : decode cX2_setsOf 1 = .ok (.getfield 36, 3) := by decide +kernel
theorem dX2_setsOf_4 : decode cX2_setsOf 4 = .ok (.iload_n 1, 1) := by decide +kernel
theorem dX2_setsOf_5 : decode cX2_setsOf 5 = .ok (.invokevirtual 46, 3) := by decide +kernel
theorem dX2_setsOf_8 : decode cX2_setsOf 8 = .ok (.invokestatic 52, 3) := by decide +kernel
theorem dX2_setsOf_11 : decode cX2_setsOf 11 = .ok (.ireturn, 1) := by decide +kernel
theorem dX2_lay_0 : decode cX2_lay 0 = .ok (.iload_n 2, 1) := by decide +kernel
theorem dX2_lay_1 : decode cX2_lay 1 = .ok (.iconst 0, 1) := by decide +kernel
theorem dX2_lay_2 : decode cX2_lay 2 = .ok (.aload_n 0, 1) := by decide +kernel
theorem dX2_lay_3 : decode cX2_lay 3 = .ok (.iload_n 1, 1) := by decide +kernel
theorem dX2_lay_4 : decode cX2_lay 4 = .ok (.invokevirtual 55, 3) := by decide +kernel
theorem dX2_lay_7 : decode cX2_lay 7 = .ok (.iconst 1, 1) := by decide +kernel
theorem dX2_lay_8 : decode cX2_lay 8 = .ok (.isub, 1) := by decide +kernel
theorem dX2_lay_9 : decode cX2_lay 9 = .ok (.invokestatic 58, 3) := by decide +kernel
theorem dX2_lay_12 : decode cX2_lay 12 = .ok (.ifCond .ne 5, 3) := by decide +kernel
theorem dX2_lay_15 : decode cX2_lay 15 = .ok (.iconst 0, 1) := by decide +kernel
theorem dX2_lay_16 : decode cX2_lay 16 = .ok (.ireturn, 1) := by decide +kernel
theorem dX2_lay_17 : decode cX2_lay 17 = .ok (.aload_n 0, 1) := by decide +kernel
theorem dX2_lay_18 : decode cX2_lay 18 = .ok (.iload_n 1, 1) := by decide +kernel
theorem dX2_lay_19 : decode cX2_lay 19 = .ok (.iload_n 2, 1) := by decide +kernel
theorem dX2_lay_20 : decode cX2_lay 20 = .ok (.invokevirtual 62, 3) := by decide +kernel
theorem dX2_lay_23 : decode cX2_lay 23 = .ok (.aload_n 0, 1) := by decide +kernel
theorem dX2_lay_24 : decode cX2_lay 24 = .ok (.getfield 36, 3) := by decide +kernel
theorem dX2_lay_27 : decode cX2_lay 27 = .ok (.getfield 66, 3) := by decide +kernel
theorem dX2_lay_30 : decode cX2_lay 30 = .ok (.iload_n 1, 1) := by decide +kernel
theorem dX2_lay_31 : decode cX2_lay 31 = .ok (.invokestatic 40, 3) := by decide +kernel
theorem dX2_lay_34 : decode cX2_lay 34 = .ok (.istore_n 3, 1) := by decide +kernel
theorem dX2_lay_35 : decode cX2_lay 35 = .ok (.iconst 0, 1) := by decide +kernel
theorem dX2_lay_36 : decode cX2_lay 36 = .ok (.istore 4, 2) := by decide +kernel
theorem dX2_lay_38 : decode cX2_lay 38 = .ok (.iload 4, 2) := by decide +kernel
theorem dX2_lay_40 : decode cX2_lay 40 = .ok (.aload_n 0, 1) := by decide +kernel
theorem dX2_lay_41 : decode cX2_lay 41 = .ok (.getfield 32, 3) := by decide +kernel
theorem dX2_lay_44 : decode cX2_lay 44 = .ok (.getfield 69, 3) := by decide +kernel
theorem dX2_lay_47 : decode cX2_lay 47 = .ok (.if_icmp .ge 34, 3) := by decide +kernel
theorem dX2_lay_50 : decode cX2_lay 50 = .ok (.aload_n 0, 1) := by decide +kernel
theorem dX2_lay_51 : decode cX2_lay 51 = .ok (.getfield 32, 3) := by decide +kernel
theorem dX2_lay_54 : decode cX2_lay 54 = .ok (.iload 4, 2) := by decide +kernel
theorem dX2_lay_56 : decode cX2_lay 56 = .ok (.invokevirtual 73, 3) := by decide +kernel
theorem dX2_lay_59 : decode cX2_lay 59 = .ok (.ifCond .eq 16, 3) := by decide +kernel
theorem dX2_lay_62 : decode cX2_lay 62 = .ok (.aload_n 0, 1) := by decide +kernel
theorem dX2_lay_63 : decode cX2_lay 63 = .ok (.iload_n 1, 1) := by decide +kernel
theorem dX2_lay_64 : decode cX2_lay 64 = .ok (.iload 4, 2) := by decide +kernel
theorem dX2_lay_66 : decode cX2_lay 66 = .ok (.iload_n 3, 1) := by decide +kernel
theorem dX2_lay_67 : decode cX2_lay 67 = .ok (.invokevirtual 77, 3) := by decide +kernel
theorem dX2_lay_70 : decode cX2_lay 70 = .ok (.ifCond .ne 5, 3) := by decide +kernel
theorem dX2_lay_73 : decode cX2_lay 73 = .ok (.iconst 0, 1) := by decide +kernel
theorem dX2_lay_74 : decode cX2_lay 74 = .ok (.ireturn, 1) := by decide +kernel
theorem dX2_lay_75 : decode cX2_lay 75 = .ok (.iinc 4 1, 3) := by decide +kernel
theorem dX2_lay_78 : decode cX2_lay 78 = .ok (.goto (-40), 3) := by decide +kernel
theorem dX2_lay_81 : decode cX2_lay 81 = .ok (.iconst 0, 1) := by decide +kernel
theorem dX2_lay_82 : decode cX2_lay 82 = .ok (.istore 4, 2) := by decide +kernel
theorem dX2_lay_84 : decode cX2_lay 84 = .ok (.iload 4, 2) := by decide +kernel
theorem dX2_lay_86 : decode cX2_lay 86 = .ok (.aload_n 0, 1) := by decide +kernel
theorem dX2_lay_87 : decode cX2_lay 87 = .ok (.getfield 32, 3) := by decide +kernel
theorem dX2_lay_90 : decode cX2_lay 90 = .ok (.getfield 80, 3) := by decide +kernel
theorem dX2_lay_93 : decode cX2_lay 93 = .ok (.if_icmp .ge 21, 3) := by decide +kernel
theorem dX2_lay_96 : decode cX2_lay 96 = .ok (.aload_n 0, 1) := by decide +kernel
theorem dX2_lay_97 : decode cX2_lay 97 = .ok (.iload 4, 2) := by decide +kernel
theorem dX2_lay_99 : decode cX2_lay 99 = .ok (.iload_n 3, 1) := by decide +kernel
theorem dX2_lay_100 : decode cX2_lay 100 = .ok (.invokevirtual 83, 3) := by decide +kernel
theorem dX2_lay_103 : decode cX2_lay 103 = .ok (.ifCond .ne 5, 3) := by decide +kernel
theorem dX2_lay_106 : decode cX2_lay 106 = .ok (.iconst 0, 1) := by decide +kernel
theorem dX2_lay_107 : decode cX2_lay 107 = .ok (.ireturn, 1) := by decide +kernel
theorem dX2_lay_108 : decode cX2_lay 108 = .ok (.iinc 4 1, 3) := by decide +kernel
theorem dX2_lay_111 : decode cX2_lay 111 = .ok (.goto (-27), 3) := by decide +kernel
theorem dX2_lay_114 : decode cX2_lay 114 = .ok (.iconst 1, 1) := by decide +kernel
theorem dX2_lay_115 : decode cX2_lay 115 = .ok (.ireturn, 1) := by decide +kernel
theorem dX2_arrange_0 : decode cX2_arrange 0 = .ok (.iconst 0, 1) := by decide +kernel
theorem dX2_arrange_1 : decode cX2_arrange 1 = .ok (.istore_n 3, 1) := by decide +kernel
theorem dX2_arrange_2 : decode cX2_arrange 2 = .ok (.iload_n 3, 1) := by decide +kernel
theorem dX2_arrange_3 : decode cX2_arrange 3 = .ok (.bipush 16, 2) := by decide +kernel
theorem dX2_arrange_5 : decode cX2_arrange 5 = .ok (.if_icmp .ge 38, 3) := by decide +kernel
theorem dX2_arrange_8 : decode cX2_arrange 8 = .ok (.aload_n 0, 1) := by decide +kernel
theorem dX2_arrange_9 : decode cX2_arrange 9 = .ok (.getfield 11, 3) := by decide +kernel
theorem dX2_arrange_12 : decode cX2_arrange 12 = .ok (.iload_n 3, 1) := by decide +kernel
theorem dX2_arrange_13 : decode cX2_arrange 13 = .ok (.iload_n 3, 1) := by decide +kernel
theorem dX2_arrange_14 : decode cX2_arrange 14 = .ok (.invokestatic 87, 3) := by decide +kernel
theorem dX2_arrange_17 : decode cX2_arrange 17 = .ok (.aload_n 0, 1) := by decide +kernel
theorem dX2_arrange_18 : decode cX2_arrange 18 = .ok (.getfield 17, 3) := by decide +kernel
theorem dX2_arrange_21 : decode cX2_arrange 21 = .ok (.iload_n 3, 1) := by decide +kernel
theorem dX2_arrange_22 : decode cX2_arrange 22 = .ok (.iconst 0, 1) := by decide +kernel
theorem dX2_arrange_23 : decode cX2_arrange 23 = .ok (.invokestatic 87, 3) := by decide +kernel
theorem dX2_arrange_26 : decode cX2_arrange 26 = .ok (.aload_n 0, 1) := by decide +kernel
theorem dX2_arrange_27 : decode cX2_arrange 27 = .ok (.getfield 20, 3) := by decide +kernel
theorem dX2_arrange_30 : decode cX2_arrange 30 = .ok (.iload_n 3, 1) := by decide +kernel
theorem dX2_arrange_31 : decode cX2_arrange 31 = .ok (.sipush 1000, 3) := by decide +kernel
theorem dX2_arrange_34 : decode cX2_arrange 34 = .ok (.invokestatic 87, 3) := by decide +kernel
theorem dX2_arrange_37 : decode cX2_arrange 37 = .ok (.iinc 3 1, 3) := by decide +kernel
theorem dX2_arrange_40 : decode cX2_arrange 40 = .ok (.goto (-38), 3) := by decide +kernel
theorem dX2_arrange_43 : decode cX2_arrange 43 = .ok (.aload_n 0, 1) := by decide +kernel
theorem dX2_arrange_44 : decode cX2_arrange 44 = .ok (.iconst 0, 1) := by decide +kernel
theorem dX2_arrange_45 : decode cX2_arrange 45 = .ok (.putfield 91, 3) := by decide +kernel
theorem dX2_arrange_48 : decode cX2_arrange 48 = .ok (.aload_n 0, 1) := by decide +kernel
theorem dX2_arrange_49 : decode cX2_arrange 49 = .ok (.iconst 0, 1) := by decide +kernel
theorem dX2_arrange_50 : decode cX2_arrange 50 = .ok (.putfield 94, 3) := by decide +kernel
theorem dX2_arrange_53 : decode cX2_arrange 53 = .ok (.iconst 0, 1) := by decide +kernel
theorem dX2_arrange_54 : decode cX2_arrange 54 = .ok (.istore_n 3, 1) := by decide +kernel
theorem dX2_arrange_55 : decode cX2_arrange 55 = .ok (.iload_n 3, 1) := by decide +kernel
theorem dX2_arrange_56 : decode cX2_arrange 56 = .ok (.aload_n 0, 1) := by decide +kernel
theorem dX2_arrange_57 : decode cX2_arrange 57 = .ok (.getfield 36, 3) := by decide +kernel
theorem dX2_arrange_60 : decode cX2_arrange 60 = .ok (.iload_n 1, 1) := by decide +kernel
theorem dX2_arrange_61 : decode cX2_arrange 61 = .ok (.invokevirtual 46, 3) := by decide +kernel
theorem dX2_arrange_64 : decode cX2_arrange 64 = .ok (.if_icmp .ge 52, 3) := by decide +kernel
theorem dX2_arrange_67 : decode cX2_arrange 67 = .ok (.iload_n 2, 1) := by decide +kernel
theorem dX2_arrange_68 : decode cX2_arrange 68 = .ok (.iload_n 3, 1) := by decide +kernel
theorem dX2_arrange_69 : decode cX2_arrange 69 = .ok (.invokestatic 97, 3) := by decide +kernel
theorem dX2_arrange_72 : decode cX2_arrange 72 = .ok (.ifCond .eq 38, 3) := by decide +kernel
theorem dX2_arrange_75 : decode cX2_arrange 75 = .ok (.aload_n 0, 1) := by decide +kernel
theorem dX2_arrange_76 : decode cX2_arrange 76 = .ok (.getfield 36, 3) := by decide +kernel
theorem dX2_arrange_79 : decode cX2_arrange 79 = .ok (.iload_n 1, 1) := by decide +kernel
theorem dX2_arrange_80 : decode cX2_arrange 80 = .ok (.iload_n 3, 1) := by decide +kernel
theorem dX2_arrange_81 : decode cX2_arrange 81 = .ok (.invokevirtual 100, 3) := by decide +kernel
theorem dX2_arrange_84 : decode cX2_arrange 84 = .ok (.istore 4, 2) := by decide +kernel
theorem dX2_arrange_86 : decode cX2_arrange 86 = .ok (.aload_n 0, 1) := by decide +kernel
theorem dX2_arrange_87 : decode cX2_arrange 87 = .ok (.aload_n 0, 1) := by decide +kernel
theorem dX2_arrange_88 : decode cX2_arrange 88 = .ok (.getfield 36, 3) := by decide +kernel
theorem dX2_arrange_91 : decode cX2_arrange 91 = .ok (.iload_n 1, 1) := by decide +kernel
theorem dX2_arrange_92 : decode cX2_arrange 92 = .ok (.iload_n 3, 1) := by decide +kernel
theorem dX2_arrange_93 : decode cX2_arrange 93 = .ok (.invokevirtual 104, 3) := by decide +kernel
theorem dX2_arrange_96 : decode cX2_arrange 96 = .ok (.iload 4, 2) := by decide +kernel
theorem dX2_arrange_98 : decode cX2_arrange 98 = .ok (.aload_n 0, 1) := by decide +kernel
theorem dX2_arrange_99 : decode cX2_arrange 99 = .ok (.getfield 36, 3) := by decide +kernel
theorem dX2_arrange_102 : decode cX2_arrange 102 = .ok (.iload_n 1, 1) := by decide +kernel
theorem dX2_arrange_103 : decode cX2_arrange 103 = .ok (.iload_n 3, 1) := by decide +kernel
theorem dX2_arrange_104 : decode cX2_arrange 104 = .ok (.invokevirtual 107, 3) := by decide +kernel
theorem dX2_arrange_107 : decode cX2_arrange 107 = .ok (.invokevirtual 110, 3) := by decide +kernel
theorem dX2_arrange_110 : decode cX2_arrange 110 = .ok (.iinc 3 1, 3) := by decide +kernel
theorem dX2_arrange_113 : decode cX2_arrange 113 = .ok (.goto (-58), 3) := by decide +kernel
theorem dX2_arrange_116 : decode cX2_arrange 116 = .ok (.return_, 1) := by decide +kernel
theorem dX2_arrangeFault_0 : decode cX2_arrangeFault 0 = .ok (.iload_n 1, 1) := by decide +kernel
theorem dX2_arrangeFault_1 : decode cX2_arrangeFault 1 = .ok (.tableswitch 97 0 3 #[31, 57, 69, 85], 31) := by decide +kernel
theorem dX2_arrangeFault_32 : decode cX2_arrangeFault 32 = .ok (.aload_n 0, 1) := by decide +kernel
theorem dX2_arrangeFault_33 : decode cX2_arrangeFault 33 = .ok (.getfield 20, 3) := by decide +kernel
theorem dX2_arrangeFault_36 : decode cX2_arrangeFault 36 = .ok (.iload_n 2, 1) := by decide +kernel
theorem dX2_arrangeFault_37 : decode cX2_arrangeFault 37 = .ok (.aload_n 0, 1) := by decide +kernel
theorem dX2_arrangeFault_38 : decode cX2_arrangeFault 38 = .ok (.getfield 20, 3) := by decide +kernel
theorem dX2_arrangeFault_41 : decode cX2_arrangeFault 41 = .ok (.iload_n 2, 1) := by decide +kernel
theorem dX2_arrangeFault_42 : decode cX2_arrangeFault 42 = .ok (.invokestatic 40, 3) := by decide +kernel
theorem dX2_arrangeFault_45 : decode cX2_arrangeFault 45 = .ok (.iload_n 3, 1) := by decide +kernel
theorem dX2_arrangeFault_46 : decode cX2_arrangeFault 46 = .ok (.invokestatic 114, 3) := by decide +kernel
theorem dX2_arrangeFault_49 : decode cX2_arrangeFault 49 = .ok (.invokestatic 117, 3) := by decide +kernel
theorem dX2_arrangeFault_52 : decode cX2_arrangeFault 52 = .ok (.invokestatic 87, 3) := by decide +kernel
theorem dX2_arrangeFault_55 : decode cX2_arrangeFault 55 = .ok (.goto 56, 3) := by decide +kernel
theorem dX2_arrangeFault_58 : decode cX2_arrangeFault 58 = .ok (.aload_n 0, 1) := by decide +kernel
theorem dX2_arrangeFault_59 : decode cX2_arrangeFault 59 = .ok (.getfield 11, 3) := by decide +kernel
theorem dX2_arrangeFault_62 : decode cX2_arrangeFault 62 = .ok (.iload_n 2, 1) := by decide +kernel
theorem dX2_arrangeFault_63 : decode cX2_arrangeFault 63 = .ok (.iload_n 3, 1) := by decide +kernel
theorem dX2_arrangeFault_64 : decode cX2_arrangeFault 64 = .ok (.invokestatic 122, 3) := by decide +kernel
theorem dX2_arrangeFault_67 : decode cX2_arrangeFault 67 = .ok (.goto 44, 3) := by decide +kernel
theorem dX2_arrangeFault_70 : decode cX2_arrangeFault 70 = .ok (.aload_n 0, 1) := by decide +kernel
theorem dX2_arrangeFault_71 : decode cX2_arrangeFault 71 = .ok (.dup, 1) := by decide +kernel
theorem dX2_arrangeFault_72 : decode cX2_arrangeFault 72 = .ok (.getfield 91, 3) := by decide +kernel
theorem dX2_arrangeFault_75 : decode cX2_arrangeFault 75 = .ok (.iload_n 2, 1) := by decide +kernel
theorem dX2_arrangeFault_76 : decode cX2_arrangeFault 76 = .ok (.invokestatic 52, 3) := by decide +kernel
theorem dX2_arrangeFault_79 : decode cX2_arrangeFault 79 = .ok (.ior, 1) := by decide +kernel
theorem dX2_arrangeFault_80 : decode cX2_arrangeFault 80 = .ok (.putfield 91, 3) := by decide +kernel
theorem dX2_arrangeFault_83 : decode cX2_arrangeFault 83 = .ok (.goto 28, 3) := by decide +kernel
theorem dX2_arrangeFault_86 : decode cX2_arrangeFault 86 = .ok (.aload_n 0, 1) := by decide +kernel
theorem dX2_arrangeFault_87 : decode cX2_arrangeFault 87 = .ok (.getfield 17, 3) := by decide +kernel
theorem dX2_arrangeFault_90 : decode cX2_arrangeFault 90 = .ok (.iload_n 2, 1) := by decide +kernel
theorem dX2_arrangeFault_91 : decode cX2_arrangeFault 91 = .ok (.iload_n 3, 1) := by decide +kernel
theorem dX2_arrangeFault_92 : decode cX2_arrangeFault 92 = .ok (.invokestatic 87, 3) := by decide +kernel
theorem dX2_arrangeFault_95 : decode cX2_arrangeFault 95 = .ok (.goto 16, 3) := by decide +kernel
theorem dX2_arrangeFault_98 : decode cX2_arrangeFault 98 = .ok (.aload_n 0, 1) := by decide +kernel
theorem dX2_arrangeFault_99 : decode cX2_arrangeFault 99 = .ok (.dup, 1) := by decide +kernel
theorem dX2_arrangeFault_100 : decode cX2_arrangeFault 100 = .ok (.getfield 94, 3) := by decide +kernel
theorem dX2_arrangeFault_103 : decode cX2_arrangeFault 103 = .ok (.iload_n 2, 1) := by decide +kernel
theorem dX2_arrangeFault_104 : decode cX2_arrangeFault 104 = .ok (.invokestatic 52, 3) := by decide +kernel
theorem dX2_arrangeFault_107 : decode cX2_arrangeFault 107 = .ok (.ior, 1) := by decide +kernel
theorem dX2_arrangeFault_108 : decode cX2_arrangeFault 108 = .ok (.putfield 94, 3) := by decide +kernel
theorem dX2_arrangeFault_111 : decode cX2_arrangeFault 111 = .ok (.return_, 1) := by decide +kernel
theorem dX2_layLever_0 : decode cX2_layLever 0 = .ok (.aload_n 0, 1) := by decide +kernel
theorem dX2_layLever_1 : decode cX2_layLever 1 = .ok (.getfield 11, 3) := by decide +kernel
theorem dX2_layLever_4 : decode cX2_layLever 4 = .ok (.iload_n 2, 1) := by decide +kernel
theorem dX2_layLever_5 : decode cX2_layLever 5 = .ok (.invokestatic 40, 3) := by decide +kernel
theorem dX2_layLever_8 : decode cX2_layLever 8 = .ok (.istore 4, 2) := by decide +kernel
theorem dX2_layLever_10 : decode cX2_layLever 10 = .ok (.aload_n 0, 1) := by decide +kernel
theorem dX2_layLever_11 : decode cX2_layLever 11 = .ok (.getfield 36, 3) := by decide +kernel
theorem dX2_layLever_14 : decode cX2_layLever 14 = .ok (.iload_n 1, 1) := by decide +kernel
theorem dX2_layLever_15 : decode cX2_layLever 15 = .ok (.iload 4, 2) := by decide +kernel
theorem dX2_layLever_17 : decode cX2_layLever 17 = .ok (.invokevirtual 125, 3) := by decide +kernel
theorem dX2_layLever_20 : decode cX2_layLever 20 = .ok (.istore 5, 2) := by decide +kernel
theorem dX2_layLever_22 : decode cX2_layLever 22 = .ok (.aload_n 0, 1) := by decide +kernel
theorem dX2_layLever_23 : decode cX2_layLever 23 = .ok (.getfield 20, 3) := by decide +kernel
theorem dX2_layLever_26 : decode cX2_layLever 26 = .ok (.iload 4, 2) := by decide +kernel
theorem dX2_layLever_28 : decode cX2_layLever 28 = .ok (.invokestatic 40, 3) := by decide +kernel
theorem dX2_layLever_31 : decode cX2_layLever 31 = .ok (.istore 6, 2) := by decide +kernel
theorem dX2_layLever_33 : decode cX2_layLever 33 = .ok (.aload_n 0, 1) := by decide +kernel
theorem dX2_layLever_34 : decode cX2_layLever 34 = .ok (.getfield 17, 3) := by decide +kernel
theorem dX2_layLever_37 : decode cX2_layLever 37 = .ok (.iload 4, 2) := by decide +kernel
theorem dX2_layLever_39 : decode cX2_layLever 39 = .ok (.invokestatic 40, 3) := by decide +kernel
theorem dX2_layLever_42 : decode cX2_layLever 42 = .ok (.istore 7, 2) := by decide +kernel
theorem dX2_layLever_44 : decode cX2_layLever 44 = .ok (.aload_n 0, 1) := by decide +kernel
theorem dX2_layLever_45 : decode cX2_layLever 45 = .ok (.getfield 91, 3) := by decide +kernel
theorem dX2_layLever_48 : decode cX2_layLever 48 = .ok (.iload 4, 2) := by decide +kernel
theorem dX2_layLever_50 : decode cX2_layLever 50 = .ok (.invokestatic 97, 3) := by decide +kernel
theorem dX2_layLever_53 : decode cX2_layLever 53 = .ok (.ifCond .eq 39, 3) := by decide +kernel
theorem dX2_layLever_56 : decode cX2_layLever 56 = .ok (.aload_n 0, 1) := by decide +kernel
theorem dX2_layLever_57 : decode cX2_layLever 57 = .ok (.getfield 26, 3) := by decide +kernel
theorem dX2_layLever_60 : decode cX2_layLever 60 = .ok (.iload_n 2, 1) := by decide +kernel
theorem dX2_layLever_61 : decode cX2_layLever 61 = .ok (.iconst 0, 1) := by decide +kernel
theorem dX2_layLever_62 : decode cX2_layLever 62 = .ok (.invokestatic 87, 3) := by decide +kernel
theorem dX2_layLever_65 : decode cX2_layLever 65 = .ok (.aload_n 0, 1) := by decide +kernel
theorem dX2_layLever_66 : decode cX2_layLever 66 = .ok (.getfield 23, 3) := by decide +kernel
theorem dX2_layLever_69 : decode cX2_layLever 69 = .ok (.iload_n 2, 1) := by decide +kernel
theorem dX2_layLever_70 : decode cX2_layLever 70 = .ok (.iconst 1, 1) := by decide +kernel
theorem dX2_layLever_71 : decode cX2_layLever 71 = .ok (.invokestatic 87, 3) := by decide +kernel
theorem dX2_layLever_74 : decode cX2_layLever 74 = .ok (.iload 7, 2) := by decide +kernel
theorem dX2_layLever_76 : decode cX2_layLever 76 = .ok (.iload 6, 2) := by decide +kernel
theorem dX2_layLever_78 : decode cX2_layLever 78 = .ok (.invokestatic 128, 3) := by decide +kernel
theorem dX2_layLever_81 : decode cX2_layLever 81 = .ok (.iload 5, 2) := by decide +kernel
theorem dX2_layLever_83 : decode cX2_layLever 83 = .ok (.if_icmp .ne 7, 3) := by decide +kernel
theorem dX2_layLever_86 : decode cX2_layLever 86 = .ok (.iconst 1, 1) := by decide +kernel
theorem dX2_layLever_87 : decode cX2_layLever 87 = .ok (.goto 4, 3) := by decide +kernel
theorem dX2_layLever_90 : decode cX2_layLever 90 = .ok (.iconst 0, 1) := by decide +kernel
theorem dX2_layLever_91 : decode cX2_layLever 91 = .ok (.ireturn, 1) := by decide +kernel
theorem dX2_layLever_92 : decode cX2_layLever 92 = .ok (.iload 5, 2) := by decide +kernel
theorem dX2_layLever_94 : decode cX2_layLever 94 = .ok (.iload 7, 2) := by decide +kernel
theorem dX2_layLever_96 : decode cX2_layLever 96 = .ok (.isub, 1) := by decide +kernel
theorem dX2_layLever_97 : decode cX2_layLever 97 = .ok (.iload 6, 2) := by decide +kernel
theorem dX2_layLever_99 : decode cX2_layLever 99 = .ok (.invokestatic 128, 3) := by decide +kernel
theorem dX2_layLever_102 : decode cX2_layLever 102 = .ok (.istore 8, 2) := by decide +kernel
theorem dX2_layLever_104 : decode cX2_layLever 104 = .ok (.aload_n 0, 1) := by decide +kernel
theorem dX2_layLever_105 : decode cX2_layLever 105 = .ok (.getfield 26, 3) := by decide +kernel
theorem dX2_layLever_108 : decode cX2_layLever 108 = .ok (.iload_n 2, 1) := by decide +kernel
theorem dX2_layLever_109 : decode cX2_layLever 109 = .ok (.iload 8, 2) := by decide +kernel
theorem dX2_layLever_111 : decode cX2_layLever 111 = .ok (.invokestatic 87, 3) := by decide +kernel
theorem dX2_layLever_114 : decode cX2_layLever 114 = .ok (.aload_n 0, 1) := by decide +kernel
theorem dX2_layLever_115 : decode cX2_layLever 115 = .ok (.getfield 23, 3) := by decide +kernel
theorem dX2_layLever_118 : decode cX2_layLever 118 = .ok (.iload_n 2, 1) := by decide +kernel
theorem dX2_layLever_119 : decode cX2_layLever 119 = .ok (.iload 6, 2) := by decide +kernel
theorem dX2_layLever_121 : decode cX2_layLever 121 = .ok (.invokestatic 87, 3) := by decide +kernel
theorem dX2_layLever_124 : decode cX2_layLever 124 = .ok (.iload 5, 2) := by decide +kernel
theorem dX2_layLever_126 : decode cX2_layLever 126 = .ok (.iload 6, 2) := by decide +kernel
theorem dX2_layLever_128 : decode cX2_layLever 128 = .ok (.if_icmp .ge 13, 3) := by decide +kernel
theorem dX2_layLever_131 : decode cX2_layLever 131 = .ok (.iload 8, 2) := by decide +kernel
theorem dX2_layLever_133 : decode cX2_layLever 133 = .ok (.iload_n 3, 1) := by decide +kernel
theorem dX2_layLever_134 : decode cX2_layLever 134 = .ok (.if_icmp .gt 7, 3) := by decide +kernel
theorem dX2_layLever_137 : decode cX2_layLever 137 = .ok (.iconst 1, 1) := by decide +kernel
theorem dX2_layLever_138 : decode cX2_layLever 138 = .ok (.goto 4, 3) := by decide +kernel
theorem dX2_layLever_141 : decode cX2_layLever 141 = .ok (.iconst 0, 1) := by decide +kernel
theorem dX2_layLever_142 : decode cX2_layLever 142 = .ok (.ireturn, 1) := by decide +kernel
theorem dX2_layOffice_0 : decode cX2_layOffice 0 = .ok (.aload_n 0, 1) := by decide +kernel
theorem dX2_layOffice_1 : decode cX2_layOffice 1 = .ok (.getfield 32, 3) := by decide +kernel
theorem dX2_layOffice_4 : decode cX2_layOffice 4 = .ok (.iload_n 1, 1) := by decide +kernel
theorem dX2_layOffice_5 : decode cX2_layOffice 5 = .ok (.invokevirtual 131, 3) := by decide +kernel
theorem dX2_layOffice_8 : decode cX2_layOffice 8 = .ok (.iload_n 2, 1) := by decide +kernel
theorem dX2_layOffice_9 : decode cX2_layOffice 9 = .ok (.imul, 1) := by decide +kernel
theorem dX2_layOffice_10 : decode cX2_layOffice 10 = .ok (.istore_n 3, 1) := by decide +kernel
theorem dX2_layOffice_11 : decode cX2_layOffice 11 = .ok (.iconst 0, 1) := by decide +kernel
theorem dX2_layOffice_12 : decode cX2_layOffice 12 = .ok (.istore 4, 2) := by decide +kernel
theorem dX2_layOffice_14 : decode cX2_layOffice 14 = .ok (.iload 4, 2) := by decide +kernel
theorem dX2_layOffice_16 : decode cX2_layOffice 16 = .ok (.aload_n 0, 1) := by decide +kernel
theorem dX2_layOffice_17 : decode cX2_layOffice 17 = .ok (.getfield 32, 3) := by decide +kernel
theorem dX2_layOffice_20 : decode cX2_layOffice 20 = .ok (.getfield 69, 3) := by decide +kernel
theorem dX2_layOffice_23 : decode cX2_layOffice 23 = .ok (.if_icmp .ge 34, 3) := by decide +kernel
theorem dX2_layOffice_26 : decode cX2_layOffice 26 = .ok (.aload_n 0, 1) := by decide +kernel
theorem dX2_layOffice_27 : decode cX2_layOffice 27 = .ok (.getfield 32, 3) := by decide +kernel
theorem dX2_layOffice_30 : decode cX2_layOffice 30 = .ok (.iload_n 1, 1) := by decide +kernel
theorem dX2_layOffice_31 : decode cX2_layOffice 31 = .ok (.invokevirtual 134, 3) := by decide +kernel
theorem dX2_layOffice_34 : decode cX2_layOffice 34 = .ok (.iload 4, 2) := by decide +kernel
theorem dX2_layOffice_36 : decode cX2_layOffice 36 = .ok (.invokestatic 97, 3) := by decide +kernel
theorem dX2_layOffice_39 : decode cX2_layOffice 39 = .ok (.ifCond .eq 12, 3) := by decide +kernel
theorem dX2_layOffice_42 : decode cX2_layOffice 42 = .ok (.iload_n 3, 1) := by decide +kernel
theorem dX2_layOffice_43 : decode cX2_layOffice 43 = .ok (.aload_n 0, 1) := by decide +kernel
theorem dX2_layOffice_44 : decode cX2_layOffice 44 = .ok (.iload 4, 2) := by decide +kernel
theorem dX2_layOffice_46 : decode cX2_layOffice 46 = .ok (.invokevirtual 137, 3) := by decide +kernel
theorem dX2_layOffice_49 : decode cX2_layOffice 49 = .ok (.isub, 1) := by decide +kernel
theorem dX2_layOffice_50 : decode cX2_layOffice 50 = .ok (.istore_n 3, 1) := by decide +kernel
theorem dX2_layOffice_51 : decode cX2_layOffice 51 = .ok (.iinc 4 1, 3) := by decide +kernel
theorem dX2_layOffice_54 : decode cX2_layOffice 54 = .ok (.goto (-40), 3) := by decide +kernel
theorem dX2_layOffice_57 : decode cX2_layOffice 57 = .ok (.aload_n 0, 1) := by decide +kernel
theorem dX2_layOffice_58 : decode cX2_layOffice 58 = .ok (.getfield 94, 3) := by decide +kernel
theorem dX2_layOffice_61 : decode cX2_layOffice 61 = .ok (.iload_n 1, 1) := by decide +kernel
theorem dX2_layOffice_62 : decode cX2_layOffice 62 = .ok (.invokestatic 97, 3) := by decide +kernel
theorem dX2_layOffice_65 : decode cX2_layOffice 65 = .ok (.istore 4, 2) := by decide +kernel
theorem dX2_layOffice_67 : decode cX2_layOffice 67 = .ok (.iload 4, 2) := by decide +kernel
theorem dX2_layOffice_69 : decode cX2_layOffice 69 = .ok (.ifCond .ne 9, 3) := by decide +kernel
theorem dX2_layOffice_72 : decode cX2_layOffice 72 = .ok (.iload_n 3, 1) := by decide +kernel
theorem dX2_layOffice_73 : decode cX2_layOffice 73 = .ok (.ifCond .ge 5, 3) := by decide +kernel
theorem dX2_layOffice_76 : decode cX2_layOffice 76 = .ok (.iconst 0, 1) := by decide +kernel
theorem dX2_layOffice_77 : decode cX2_layOffice 77 = .ok (.ireturn, 1) := by decide +kernel
theorem dX2_layOffice_78 : decode cX2_layOffice 78 = .ok (.iconst 0, 1) := by decide +kernel
theorem dX2_layOffice_79 : decode cX2_layOffice 79 = .ok (.istore 5, 2) := by decide +kernel
theorem dX2_layOffice_81 : decode cX2_layOffice 81 = .ok (.iload 5, 2) := by decide +kernel
theorem dX2_layOffice_83 : decode cX2_layOffice 83 = .ok (.aload_n 0, 1) := by decide +kernel
theorem dX2_layOffice_84 : decode cX2_layOffice 84 = .ok (.getfield 32, 3) := by decide +kernel
theorem dX2_layOffice_87 : decode cX2_layOffice 87 = .ok (.getfield 69, 3) := by decide +kernel
theorem dX2_layOffice_90 : decode cX2_layOffice 90 = .ok (.if_icmp .ge 86, 3) := by decide +kernel
theorem dX2_layOffice_93 : decode cX2_layOffice 93 = .ok (.aload_n 0, 1) := by decide +kernel
theorem dX2_layOffice_94 : decode cX2_layOffice 94 = .ok (.getfield 32, 3) := by decide +kernel
theorem dX2_layOffice_97 : decode cX2_layOffice 97 = .ok (.iload_n 1, 1) := by decide +kernel
theorem dX2_layOffice_98 : decode cX2_layOffice 98 = .ok (.invokevirtual 134, 3) := by decide +kernel
theorem dX2_layOffice_101 : decode cX2_layOffice 101 = .ok (.iload 5, 2) := by decide +kernel
theorem dX2_layOffice_103 : decode cX2_layOffice 103 = .ok (.invokestatic 97, 3) := by decide +kernel
theorem dX2_layOffice_106 : decode cX2_layOffice 106 = .ok (.ifCond .eq 64, 3) := by decide +kernel
theorem dX2_layOffice_109 : decode cX2_layOffice 109 = .ok (.iload_n 2, 1) := by decide +kernel
theorem dX2_layOffice_110 : decode cX2_layOffice 110 = .ok (.aload_n 0, 1) := by decide +kernel
theorem dX2_layOffice_111 : decode cX2_layOffice 111 = .ok (.iload 5, 2) := by decide +kernel
theorem dX2_layOffice_113 : decode cX2_layOffice 113 = .ok (.invokevirtual 137, 3) := by decide +kernel
theorem dX2_layOffice_116 : decode cX2_layOffice 116 = .ok (.isub, 1) := by decide +kernel
theorem dX2_layOffice_117 : decode cX2_layOffice 117 = .ok (.istore 6, 2) := by decide +kernel
theorem dX2_layOffice_119 : decode cX2_layOffice 119 = .ok (.iload 4, 2) := by decide +kernel
theorem dX2_layOffice_121 : decode cX2_layOffice 121 = .ok (.ifCond .eq 8, 3) := by decide +kernel
theorem dX2_layOffice_124 : decode cX2_layOffice 124 = .ok (.iload 6, 2) := by decide +kernel
theorem dX2_layOffice_126 : decode cX2_layOffice 126 = .ok (.goto 9, 3) := by decide +kernel
theorem dX2_layOffice_129 : decode cX2_layOffice 129 = .ok (.iload 6, 2) := by decide +kernel
theorem dX2_layOffice_131 : decode cX2_layOffice 131 = .ok (.iload_n 3, 1) := by decide +kernel
theorem dX2_layOffice_132 : decode cX2_layOffice 132 = .ok (.invokestatic 117, 3) := by decide +kernel
theorem dX2_layOffice_135 : decode cX2_layOffice 135 = .ok (.istore 6, 2) := by decide +kernel
theorem dX2_layOffice_137 : decode cX2_layOffice 137 = .ok (.aload_n 0, 1) := by decide +kernel
theorem dX2_layOffice_138 : decode cX2_layOffice 138 = .ok (.getfield 29, 3) := by decide +kernel
theorem dX2_layOffice_141 : decode cX2_layOffice 141 = .ok (.iload 5, 2) := by decide +kernel
theorem dX2_layOffice_143 : decode cX2_layOffice 143 = .ok (.aload_n 0, 1) := by decide +kernel
theorem dX2_layOffice_144 : decode cX2_layOffice 144 = .ok (.iload 5, 2) := by decide +kernel
theorem dX2_layOffice_146 : decode cX2_layOffice 146 = .ok (.invokevirtual 137, 3) := by decide +kernel
theorem dX2_layOffice_149 : decode cX2_layOffice 149 = .ok (.iload 6, 2) := by decide +kernel
theorem dX2_layOffice_151 : decode cX2_layOffice 151 = .ok (.iadd, 1) := by decide +kernel
theorem dX2_layOffice_152 : decode cX2_layOffice 152 = .ok (.iload 6, 2) := by decide +kernel
theorem dX2_layOffice_154 : decode cX2_layOffice 154 = .ok (.aload_n 0, 1) := by decide +kernel
theorem dX2_layOffice_155 : decode cX2_layOffice 155 = .ok (.getfield 23, 3) := by decide +kernel
theorem dX2_layOffice_158 : decode cX2_layOffice 158 = .ok (.iload 5, 2) := by decide +kernel
theorem dX2_layOffice_160 : decode cX2_layOffice 160 = .ok (.invokestatic 40, 3) := by decide +kernel
theorem dX2_layOffice_163 : decode cX2_layOffice 163 = .ok (.invokestatic 128, 3) := by decide +kernel
theorem dX2_layOffice_166 : decode cX2_layOffice 166 = .ok (.isub, 1) := by decide +kernel
theorem dX2_layOffice_167 : decode cX2_layOffice 167 = .ok (.invokestatic 87, 3) := by decide +kernel
theorem dX2_layOffice_170 : decode cX2_layOffice 170 = .ok (.iinc 5 1, 3) := by decide +kernel
theorem dX2_layOffice_173 : decode cX2_layOffice 173 = .ok (.goto (-92), 3) := by decide +kernel
theorem dX2_layOffice_176 : decode cX2_layOffice 176 = .ok (.iconst 1, 1) := by decide +kernel
theorem dX2_layOffice_177 : decode cX2_layOffice 177 = .ok (.ireturn, 1) := by decide +kernel
theorem dX2_howMany_0 : decode cX2_howMany 0 = .ok (.iconst 0, 1) := by decide +kernel
theorem dX2_howMany_1 : decode cX2_howMany 1 = .ok (.istore_n 2, 1) := by decide +kernel
theorem dX2_howMany_2 : decode cX2_howMany 2 = .ok (.iconst 0, 1) := by decide +kernel
theorem dX2_howMany_3 : decode cX2_howMany 3 = .ok (.istore_n 3, 1) := by decide +kernel
theorem dX2_howMany_4 : decode cX2_howMany 4 = .ok (.iload_n 3, 1) := by decide +kernel
theorem dX2_howMany_5 : decode cX2_howMany 5 = .ok (.aload_n 0, 1) := by decide +kernel
theorem dX2_howMany_6 : decode cX2_howMany 6 = .ok (.iload_n 1, 1) := by decide +kernel
theorem dX2_howMany_7 : decode cX2_howMany 7 = .ok (.invokevirtual 55, 3) := by decide +kernel
theorem dX2_howMany_10 : decode cX2_howMany 10 = .ok (.if_icmp .ge 21, 3) := by decide +kernel
theorem dX2_howMany_13 : decode cX2_howMany 13 = .ok (.aload_n 0, 1) := by decide +kernel
theorem dX2_howMany_14 : decode cX2_howMany 14 = .ok (.iload_n 1, 1) := by decide +kernel
theorem dX2_howMany_15 : decode cX2_howMany 15 = .ok (.iload_n 3, 1) := by decide +kernel
theorem dX2_howMany_16 : decode cX2_howMany 16 = .ok (.invokevirtual 140, 3) := by decide +kernel
theorem dX2_howMany_19 : decode cX2_howMany 19 = .ok (.ifCond .eq 6, 3) := by decide +kernel
theorem dX2_howMany_22 : decode cX2_howMany 22 = .ok (.iinc 2 1, 3) := by decide +kernel
theorem dX2_howMany_25 : decode cX2_howMany 25 = .ok (.iinc 3 1, 3) := by decide +kernel
theorem dX2_howMany_28 : decode cX2_howMany 28 = .ok (.goto (-24), 3) := by decide +kernel
theorem dX2_howMany_31 : decode cX2_howMany 31 = .ok (.iload_n 2, 1) := by decide +kernel
theorem dX2_howMany_32 : decode cX2_howMany 32 = .ok (.ireturn, 1) := by decide +kernel
theorem dX2_numbered_0 : decode cX2_numbered 0 = .ok (.iconst 0, 1) := by decide +kernel
theorem dX2_numbered_1 : decode cX2_numbered 1 = .ok (.istore_n 3, 1) := by decide +kernel
theorem dX2_numbered_2 : decode cX2_numbered 2 = .ok (.iconst 0, 1) := by decide +kernel
theorem dX2_numbered_3 : decode cX2_numbered 3 = .ok (.istore 4, 2) := by decide +kernel
theorem dX2_numbered_5 : decode cX2_numbered 5 = .ok (.iload 4, 2) := by decide +kernel
theorem dX2_numbered_7 : decode cX2_numbered 7 = .ok (.aload_n 0, 1) := by decide +kernel
theorem dX2_numbered_8 : decode cX2_numbered 8 = .ok (.iload_n 1, 1) := by decide +kernel
theorem dX2_numbered_9 : decode cX2_numbered 9 = .ok (.invokevirtual 55, 3) := by decide +kernel
theorem dX2_numbered_12 : decode cX2_numbered 12 = .ok (.if_icmp .ge 30, 3) := by decide +kernel
theorem dX2_numbered_15 : decode cX2_numbered 15 = .ok (.aload_n 0, 1) := by decide +kernel
theorem dX2_numbered_16 : decode cX2_numbered 16 = .ok (.iload_n 1, 1) := by decide +kernel
theorem dX2_numbered_17 : decode cX2_numbered 17 = .ok (.iload 4, 2) := by decide +kernel
theorem dX2_numbered_19 : decode cX2_numbered 19 = .ok (.invokevirtual 140, 3) := by decide +kernel
theorem dX2_numbered_22 : decode cX2_numbered 22 = .ok (.ifCond .eq 14, 3) := by decide +kernel
theorem dX2_numbered_25 : decode cX2_numbered 25 = .ok (.iload_n 3, 1) := by decide +kernel
theorem dX2_numbered_26 : decode cX2_numbered 26 = .ok (.iload_n 2, 1) := by decide +kernel
theorem dX2_numbered_27 : decode cX2_numbered 27 = .ok (.if_icmp .ne 6, 3) := by decide +kernel
theorem dX2_numbered_30 : decode cX2_numbered 30 = .ok (.iload 4, 2) := by decide +kernel
theorem dX2_numbered_32 : decode cX2_numbered 32 = .ok (.ireturn, 1) := by decide +kernel
theorem dX2_numbered_33 : decode cX2_numbered 33 = .ok (.iinc 3 1, 3) := by decide +kernel
theorem dX2_numbered_36 : decode cX2_numbered 36 = .ok (.iinc 4 1, 3) := by decide +kernel
theorem dX2_numbered_39 : decode cX2_numbered 39 = .ok (.goto (-34), 3) := by decide +kernel
theorem dX2_numbered_42 : decode cX2_numbered 42 = .ok (.iconst (-1), 1) := by decide +kernel
theorem dX2_numbered_43 : decode cX2_numbered 43 = .ok (.ireturn, 1) := by decide +kernel
theorem dX2_fewest_0 : decode cX2_fewest 0 = .ok (.iconst (-1), 1) := by decide +kernel
theorem dX2_fewest_1 : decode cX2_fewest 1 = .ok (.istore_n 2, 1) := by decide +kernel
theorem dX2_fewest_2 : decode cX2_fewest 2 = .ok (.iconst 0, 1) := by decide +kernel
theorem dX2_fewest_3 : decode cX2_fewest 3 = .ok (.istore_n 3, 1) := by decide +kernel
theorem dX2_fewest_4 : decode cX2_fewest 4 = .ok (.iload_n 3, 1) := by decide +kernel
theorem dX2_fewest_5 : decode cX2_fewest 5 = .ok (.aload_n 0, 1) := by decide +kernel
theorem dX2_fewest_6 : decode cX2_fewest 6 = .ok (.iload_n 1, 1) := by decide +kernel
theorem dX2_fewest_7 : decode cX2_fewest 7 = .ok (.invokevirtual 55, 3) := by decide +kernel
theorem dX2_fewest_10 : decode cX2_fewest 10 = .ok (.if_icmp .ge 33, 3) := by decide +kernel
theorem dX2_fewest_13 : decode cX2_fewest 13 = .ok (.iload_n 2, 1) := by decide +kernel
theorem dX2_fewest_14 : decode cX2_fewest 14 = .ok (.iconst (-1), 1) := by decide +kernel
theorem dX2_fewest_15 : decode cX2_fewest 15 = .ok (.if_icmp .eq 11, 3) := by decide +kernel
theorem dX2_fewest_18 : decode cX2_fewest 18 = .ok (.iload_n 3, 1) := by decide +kernel
theorem dX2_fewest_19 : decode cX2_fewest 19 = .ok (.iload_n 2, 1) := by decide +kernel
theorem dX2_fewest_20 : decode cX2_fewest 20 = .ok (.invokestatic 143, 3) := by decide +kernel
theorem dX2_fewest_23 : decode cX2_fewest 23 = .ok (.ifCond .eq 14, 3) := by decide +kernel
theorem dX2_fewest_26 : decode cX2_fewest 26 = .ok (.aload_n 0, 1) := by decide +kernel
theorem dX2_fewest_27 : decode cX2_fewest 27 = .ok (.iload_n 1, 1) := by decide +kernel
theorem dX2_fewest_28 : decode cX2_fewest 28 = .ok (.iload_n 3, 1) := by decide +kernel
theorem dX2_fewest_29 : decode cX2_fewest 29 = .ok (.invokevirtual 140, 3) := by decide +kernel
theorem dX2_fewest_32 : decode cX2_fewest 32 = .ok (.ifCond .eq 5, 3) := by decide +kernel
theorem dX2_fewest_35 : decode cX2_fewest 35 = .ok (.iload_n 3, 1) := by decide +kernel
theorem dX2_fewest_36 : decode cX2_fewest 36 = .ok (.istore_n 2, 1) := by decide +kernel
theorem dX2_fewest_37 : decode cX2_fewest 37 = .ok (.iinc 3 1, 3) := by decide +kernel
theorem dX2_fewest_40 : decode cX2_fewest 40 = .ok (.goto (-36), 3) := by decide +kernel
theorem dX2_fewest_43 : decode cX2_fewest 43 = .ok (.iload_n 2, 1) := by decide +kernel
theorem dX2_fewest_44 : decode cX2_fewest 44 = .ok (.ireturn, 1) := by decide +kernel
theorem dX2_inAll_0 : decode cX2_inAll 0 = .ok (.iconst (-1), 1) := by decide +kernel
theorem dX2_inAll_1 : decode cX2_inAll 1 = .ok (.istore_n 2, 1) := by decide +kernel
theorem dX2_inAll_2 : decode cX2_inAll 2 = .ok (.iconst 0, 1) := by decide +kernel
theorem dX2_inAll_3 : decode cX2_inAll 3 = .ok (.istore_n 3, 1) := by decide +kernel
theorem dX2_inAll_4 : decode cX2_inAll 4 = .ok (.iload_n 3, 1) := by decide +kernel
theorem dX2_inAll_5 : decode cX2_inAll 5 = .ok (.aload_n 0, 1) := by decide +kernel
theorem dX2_inAll_6 : decode cX2_inAll 6 = .ok (.iload_n 1, 1) := by decide +kernel
theorem dX2_inAll_7 : decode cX2_inAll 7 = .ok (.invokevirtual 55, 3) := by decide +kernel
theorem dX2_inAll_10 : decode cX2_inAll 10 = .ok (.if_icmp .ge 31, 3) := by decide +kernel
theorem dX2_inAll_13 : decode cX2_inAll 13 = .ok (.aload_n 0, 1) := by decide +kernel
theorem dX2_inAll_14 : decode cX2_inAll 14 = .ok (.iload_n 1, 1) := by decide +kernel
theorem dX2_inAll_15 : decode cX2_inAll 15 = .ok (.iload_n 3, 1) := by decide +kernel
theorem dX2_inAll_16 : decode cX2_inAll 16 = .ok (.invokevirtual 140, 3) := by decide +kernel
theorem dX2_inAll_19 : decode cX2_inAll 19 = .ok (.ifCond .eq 16, 3) := by decide +kernel
theorem dX2_inAll_22 : decode cX2_inAll 22 = .ok (.iload_n 2, 1) := by decide +kernel
theorem dX2_inAll_23 : decode cX2_inAll 23 = .ok (.iconst (-1), 1) := by decide +kernel
theorem dX2_inAll_24 : decode cX2_inAll 24 = .ok (.if_icmp .ne 7, 3) := by decide +kernel
theorem dX2_inAll_27 : decode cX2_inAll 27 = .ok (.iload_n 3, 1) := by decide +kernel
theorem dX2_inAll_28 : decode cX2_inAll 28 = .ok (.goto 6, 3) := by decide +kernel
theorem dX2_inAll_31 : decode cX2_inAll 31 = .ok (.iload_n 2, 1) := by decide +kernel
theorem dX2_inAll_32 : decode cX2_inAll 32 = .ok (.iload_n 3, 1) := by decide +kernel
theorem dX2_inAll_33 : decode cX2_inAll 33 = .ok (.iand, 1) := by decide +kernel
theorem dX2_inAll_34 : decode cX2_inAll 34 = .ok (.istore_n 2, 1) := by decide +kernel
theorem dX2_inAll_35 : decode cX2_inAll 35 = .ok (.iinc 3 1, 3) := by decide +kernel
theorem dX2_inAll_38 : decode cX2_inAll 38 = .ok (.goto (-34), 3) := by decide +kernel
theorem dX2_inAll_41 : decode cX2_inAll 41 = .ok (.iload_n 2, 1) := by decide +kernel
theorem dX2_inAll_42 : decode cX2_inAll 42 = .ok (.ireturn, 1) := by decide +kernel
theorem dX2_inSome_0 : decode cX2_inSome 0 = .ok (.iconst (-1), 1) := by decide +kernel
theorem dX2_inSome_1 : decode cX2_inSome 1 = .ok (.istore_n 2, 1) := by decide +kernel
theorem dX2_inSome_2 : decode cX2_inSome 2 = .ok (.iconst 0, 1) := by decide +kernel
theorem dX2_inSome_3 : decode cX2_inSome 3 = .ok (.istore_n 3, 1) := by decide +kernel
theorem dX2_inSome_4 : decode cX2_inSome 4 = .ok (.iload_n 3, 1) := by decide +kernel
theorem dX2_inSome_5 : decode cX2_inSome 5 = .ok (.aload_n 0, 1) := by decide +kernel
theorem dX2_inSome_6 : decode cX2_inSome 6 = .ok (.iload_n 1, 1) := by decide +kernel
theorem dX2_inSome_7 : decode cX2_inSome 7 = .ok (.invokevirtual 55, 3) := by decide +kernel
theorem dX2_inSome_10 : decode cX2_inSome 10 = .ok (.if_icmp .ge 31, 3) := by decide +kernel
theorem dX2_inSome_13 : decode cX2_inSome 13 = .ok (.aload_n 0, 1) := by decide +kernel
theorem dX2_inSome_14 : decode cX2_inSome 14 = .ok (.iload_n 1, 1) := by decide +kernel
theorem dX2_inSome_15 : decode cX2_inSome 15 = .ok (.iload_n 3, 1) := by decide +kernel
theorem dX2_inSome_16 : decode cX2_inSome 16 = .ok (.invokevirtual 140, 3) := by decide +kernel
theorem dX2_inSome_19 : decode cX2_inSome 19 = .ok (.ifCond .eq 16, 3) := by decide +kernel
theorem dX2_inSome_22 : decode cX2_inSome 22 = .ok (.iload_n 2, 1) := by decide +kernel
theorem dX2_inSome_23 : decode cX2_inSome 23 = .ok (.iconst (-1), 1) := by decide +kernel
theorem dX2_inSome_24 : decode cX2_inSome 24 = .ok (.if_icmp .ne 7, 3) := by decide +kernel
theorem dX2_inSome_27 : decode cX2_inSome 27 = .ok (.iload_n 3, 1) := by decide +kernel
theorem dX2_inSome_28 : decode cX2_inSome 28 = .ok (.goto 6, 3) := by decide +kernel
theorem dX2_inSome_31 : decode cX2_inSome 31 = .ok (.iload_n 2, 1) := by decide +kernel
theorem dX2_inSome_32 : decode cX2_inSome 32 = .ok (.iload_n 3, 1) := by decide +kernel
theorem dX2_inSome_33 : decode cX2_inSome 33 = .ok (.ior, 1) := by decide +kernel
theorem dX2_inSome_34 : decode cX2_inSome 34 = .ok (.istore_n 2, 1) := by decide +kernel
theorem dX2_inSome_35 : decode cX2_inSome 35 = .ok (.iinc 3 1, 3) := by decide +kernel
theorem dX2_inSome_38 : decode cX2_inSome 38 = .ok (.goto (-34), 3) := by decide +kernel
theorem dX2_inSome_41 : decode cX2_inSome 41 = .ok (.iload_n 2, 1) := by decide +kernel
theorem dX2_inSome_42 : decode cX2_inSome 42 = .ok (.ireturn, 1) := by decide +kernel
theorem dX3_init_0 : decode cX3_init 0 = .ok (.aload_n 0, 1) := by decide +kernel
theorem dX3_init_1 : decode cX3_init 1 = .ok (.invokespecial 3, 3) := by decide +kernel
theorem dX3_init_4 : decode cX3_init 4 = .ok (.aload_n 0, 1) := by decide +kernel
theorem dX3_init_5 : decode cX3_init 5 = .ok (.iconst (-1), 1) := by decide +kernel
theorem dX3_init_6 : decode cX3_init 6 = .ok (.putfield 9, 3) := by decide +kernel
theorem dX3_init_9 : decode cX3_init 9 = .ok (.aload_n 0, 1) := by decide +kernel
theorem dX3_init_10 : decode cX3_init 10 = .ok (.bipush 120, 2) := by decide +kernel
theorem dX3_init_12 : decode cX3_init 12 = .ok (.newarray .int, 2) := by decide +kernel
theorem dX3_init_14 : decode cX3_init 14 = .ok (.putfield 17, 3) := by decide +kernel
theorem dX3_init_17 : decode cX3_init 17 = .ok (.aload_n 0, 1) := by decide +kernel
theorem dX3_init_18 : decode cX3_init 18 = .ok (.iconst 5, 1) := by decide +kernel
theorem dX3_init_19 : decode cX3_init 19 = .ok (.newarray .int, 2) := by decide +kernel
theorem dX3_init_21 : decode cX3_init 21 = .ok (.putfield 23, 3) := by decide +kernel
theorem dX3_init_24 : decode cX3_init 24 = .ok (.return_, 1) := by decide +kernel
theorem dX3_layText_0 : decode cX3_layText 0 = .ok (.aload_n 0, 1) := by decide +kernel
theorem dX3_layText_1 : decode cX3_layText 1 = .ok (.iload_n 3, 1) := by decide +kernel
theorem dX3_layText_2 : decode cX3_layText 2 = .ok (.iconst 0, 1) := by decide +kernel
theorem dX3_layText_3 : decode cX3_layText 3 = .ok (.aload_n 0, 1) := by decide +kernel
theorem dX3_layText_4 : decode cX3_layText 4 = .ok (.getfield 17, 3) := by decide +kernel
theorem dX3_layText_7 : decode cX3_layText 7 = .ok (.arraylength, 1) := by decide +kernel
theorem dX3_layText_8 : decode cX3_layText 8 = .ok (.invokestatic 26, 3) := by decide +kernel
theorem dX3_layText_11 : decode cX3_layText 11 = .ok (.putfield 32, 3) := by decide +kernel
theorem dX3_layText_14 : decode cX3_layText 14 = .ok (.iconst 0, 1) := by decide +kernel
theorem dX3_layText_15 : decode cX3_layText 15 = .ok (.istore 4, 2) := by decide +kernel
theorem dX3_layText_17 : decode cX3_layText 17 = .ok (.iload 4, 2) := by decide +kernel
theorem dX3_layText_19 : decode cX3_layText 19 = .ok (.aload_n 0, 1) := by decide +kernel
theorem dX3_layText_20 : decode cX3_layText 20 = .ok (.getfield 32, 3) := by decide +kernel
theorem dX3_layText_23 : decode cX3_layText 23 = .ok (.if_icmp .ge 26, 3) := by decide +kernel
theorem dX3_layText_26 : decode cX3_layText 26 = .ok (.aload_n 0, 1) := by decide +kernel
theorem dX3_layText_27 : decode cX3_layText 27 = .ok (.getfield 17, 3) := by decide +kernel
theorem dX3_layText_30 : decode cX3_layText 30 = .ok (.iload 4, 2) := by decide +kernel
theorem dX3_layText_32 : decode cX3_layText 32 = .ok (.aload_n 1, 1) := by decide +kernel
theorem dX3_layText_33 : decode cX3_layText 33 = .ok (.iload_n 2, 1) := by decide +kernel
theorem dX3_layText_34 : decode cX3_layText 34 = .ok (.iload 4, 2) := by decide +kernel
theorem dX3_layText_36 : decode cX3_layText 36 = .ok (.iadd, 1) := by decide +kernel
theorem dX3_layText_37 : decode cX3_layText 37 = .ok (.invokestatic 35, 3) := by decide +kernel
theorem dX3_layText_40 : decode cX3_layText 40 = .ok (.invokestatic 39, 3) := by decide +kernel
theorem dX3_layText_43 : decode cX3_layText 43 = .ok (.iinc 4 1, 3) := by decide +kernel
theorem dX3_layText_46 : decode cX3_layText 46 = .ok (.goto (-29), 3) := by decide +kernel
theorem dX3_layText_49 : decode cX3_layText 49 = .ok (.return_, 1) := by decide +kernel
theorem dX3_layBooks_0 : decode cX3_layBooks 0 = .ok (.iconst 0, 1) := by decide +kernel
theorem dX3_layBooks_1 : decode cX3_layBooks 1 = .ok (.istore_n 3, 1) := by decide +kernel
theorem dX3_layBooks_2 : decode cX3_layBooks 2 = .ok (.iload_n 3, 1) := by decide +kernel
theorem dX3_layBooks_3 : decode cX3_layBooks 3 = .ok (.aload_n 0, 1) := by decide +kernel
theorem dX3_layBooks_4 : decode cX3_layBooks 4 = .ok (.getfield 23, 3) := by decide +kernel
theorem dX3_layBooks_7 : decode cX3_layBooks 7 = .ok (.arraylength, 1) := by decide +kernel
theorem dX3_layBooks_8 : decode cX3_layBooks 8 = .ok (.if_icmp .ge 24, 3) := by decide +kernel
theorem dX3_layBooks_11 : decode cX3_layBooks 11 = .ok (.aload_n 0, 1) := by decide +kernel
theorem dX3_layBooks_12 : decode cX3_layBooks 12 = .ok (.getfield 23, 3) := by decide +kernel
theorem dX3_layBooks_15 : decode cX3_layBooks 15 = .ok (.iload_n 3, 1) := by decide +kernel
theorem dX3_layBooks_16 : decode cX3_layBooks 16 = .ok (.aload_n 1, 1) := by decide +kernel
theorem dX3_layBooks_17 : decode cX3_layBooks 17 = .ok (.iload_n 2, 1) := by decide +kernel
theorem dX3_layBooks_18 : decode cX3_layBooks 18 = .ok (.iload_n 3, 1) := by decide +kernel
theorem dX3_layBooks_19 : decode cX3_layBooks 19 = .ok (.iadd, 1) := by decide +kernel
theorem dX3_layBooks_20 : decode cX3_layBooks 20 = .ok (.invokestatic 35, 3) := by decide +kernel
theorem dX3_layBooks_23 : decode cX3_layBooks 23 = .ok (.invokestatic 39, 3) := by decide +kernel
theorem dX3_layBooks_26 : decode cX3_layBooks 26 = .ok (.iinc 3 1, 3) := by decide +kernel
theorem dX3_layBooks_29 : decode cX3_layBooks 29 = .ok (.goto (-27), 3) := by decide +kernel
theorem dX3_layBooks_32 : decode cX3_layBooks 32 = .ok (.return_, 1) := by decide +kernel
theorem dX3_worth_0 : decode cX3_worth 0 = .ok (.aload_n 0, 1) := by decide +kernel
theorem dX3_worth_1 : decode cX3_worth 1 = .ok (.iconst 0, 1) := by decide +kernel
theorem dX3_worth_2 : decode cX3_worth 2 = .ok (.putfield 43, 3) := by decide +kernel
theorem dX3_worth_5 : decode cX3_worth 5 = .ok (.aload_n 0, 1) := by decide +kernel
theorem dX3_worth_6 : decode cX3_worth 6 = .ok (.iconst (-1), 1) := by decide +kernel
theorem dX3_worth_7 : decode cX3_worth 7 = .ok (.putfield 9, 3) := by decide +kernel
theorem dX3_worth_10 : decode cX3_worth 10 = .ok (.iconst 0, 1) := by decide +kernel
theorem dX3_worth_11 : decode cX3_worth 11 = .ok (.istore_n 1, 1) := by decide +kernel
theorem dX3_worth_12 : decode cX3_worth 12 = .ok (.iconst 0, 1) := by decide +kernel
theorem dX3_worth_13 : decode cX3_worth 13 = .ok (.istore_n 2, 1) := by decide +kernel
theorem dX3_worth_14 : decode cX3_worth 14 = .ok (.iconst 0, 1) := by decide +kernel
theorem dX3_worth_15 : decode cX3_worth 15 = .ok (.istore_n 3, 1) := by decide +kernel
theorem dX3_worth_16 : decode cX3_worth 16 = .ok (.iload_n 3, 1) := by decide +kernel
theorem dX3_worth_17 : decode cX3_worth 17 = .ok (.aload_n 0, 1) := by decide +kernel
theorem dX3_worth_18 : decode cX3_worth 18 = .ok (.getfield 32, 3) := by decide +kernel
theorem dX3_worth_21 : decode cX3_worth 21 = .ok (.if_icmp .gt 142, 3) := by decide +kernel
theorem dX3_worth_24 : decode cX3_worth 24 = .ok (.aload_n 0, 1) := by decide +kernel
theorem dX3_worth_25 : decode cX3_worth 25 = .ok (.bipush 121, 2) := by decide +kernel
theorem dX3_worth_27 : decode cX3_worth 27 = .ok (.invokevirtual 46, 3) := by decide +kernel
theorem dX3_worth_30 : decode cX3_worth 30 = .ok (.aload_n 0, 1) := by decide +kernel
theorem dX3_worth_31 : decode cX3_worth 31 = .ok (.bipush 58, 2) := by decide +kernel
theorem dX3_worth_33 : decode cX3_worth 33 = .ok (.invokevirtual 46, 3) := by decide +kernel
theorem dX3_worth_36 : decode cX3_worth 36 = .ok (.aload_n 0, 1) := by decide +kernel
theorem dX3_worth_37 : decode cX3_worth 37 = .ok (.invokevirtual 50, 3) := by decide +kernel
theorem dX3_worth_40 : decode cX3_worth 40 = .ok (.istore 4, 2) := by decide +kernel
theorem dX3_worth_42 : decode cX3_worth 42 = .ok (.iload 4, 2) := by decide +kernel
theorem dX3_worth_44 : decode cX3_worth 44 = .ok (.bipush 33, 2) := by decide +kernel
theorem dX3_worth_46 : decode cX3_worth 46 = .ok (.if_icmp .eq 14, 3) := by decide +kernel
theorem dX3_worth_49 : decode cX3_worth 49 = .ok (.iload 4, 2) := by decide +kernel
theorem dX3_worth_51 : decode cX3_worth 51 = .ok (.bipush 40, 2) := by decide +kernel
theorem dX3_worth_53 : decode cX3_worth 53 = .ok (.if_icmp .eq 7, 3) := by decide +kernel
theorem dX3_worth_56 : decode cX3_worth 56 = .ok (.iconst 1, 1) := by decide +kernel
theorem dX3_worth_57 : decode cX3_worth 57 = .ok (.goto 4, 3) := by decide +kernel
theorem dX3_worth_60 : decode cX3_worth 60 = .ok (.iconst 0, 1) := by decide +kernel
theorem dX3_worth_61 : decode cX3_worth 61 = .ok (.istore 5, 2) := by decide +kernel
theorem dX3_worth_63 : decode cX3_worth 63 = .ok (.iload 5, 2) := by decide +kernel
theorem dX3_worth_65 : decode cX3_worth 65 = .ok (.ifCond .eq 11, 3) := by decide +kernel
theorem dX3_worth_68 : decode cX3_worth 68 = .ok (.aload_n 0, 1) := by decide +kernel
theorem dX3_worth_69 : decode cX3_worth 69 = .ok (.iconst 0, 1) := by decide +kernel
theorem dX3_worth_70 : decode cX3_worth 70 = .ok (.invokevirtual 54, 3) := by decide +kernel
theorem dX3_worth_73 : decode cX3_worth 73 = .ok (.goto 4, 3) := by decide +kernel
theorem dX3_worth_76 : decode cX3_worth 76 = .ok (.iconst 0, 1) := by decide +kernel
theorem dX3_worth_77 : decode cX3_worth 77 = .ok (.istore 6, 2) := by decide +kernel
theorem dX3_worth_79 : decode cX3_worth 79 = .ok (.iconst 1, 1) := by decide +kernel
theorem dX3_worth_80 : decode cX3_worth 80 = .ok (.istore 7, 2) := by decide +kernel
theorem dX3_worth_82 : decode cX3_worth 82 = .ok (.iload 5, 2) := by decide +kernel
theorem dX3_worth_84 : decode cX3_worth 84 = .ok (.ifCond .eq 13, 3) := by decide +kernel
theorem dX3_worth_87 : decode cX3_worth 87 = .ok (.aload_n 0, 1) := by decide +kernel
theorem dX3_worth_88 : decode cX3_worth 88 = .ok (.invokevirtual 50, 3) := by decide +kernel
theorem dX3_worth_91 : decode cX3_worth 91 = .ok (.invokestatic 58, 3) := by decide +kernel
theorem dX3_worth_94 : decode cX3_worth 94 = .ok (.ifCond .eq 27, 3) := by decide +kernel
theorem dX3_worth_97 : decode cX3_worth 97 = .ok (.aload_n 0, 1) := by decide +kernel
theorem dX3_worth_98 : decode cX3_worth 98 = .ok (.iconst 0, 1) := by decide +kernel
theorem dX3_worth_99 : decode cX3_worth 99 = .ok (.iload 5, 2) := by decide +kernel
theorem dX3_worth_101 : decode cX3_worth 101 = .ok (.iload 6, 2) := by decide +kernel
theorem dX3_worth_103 : decode cX3_worth 103 = .ok (.invokevirtual 62, 3) := by decide +kernel
theorem dX3_worth_106 : decode cX3_worth 106 = .ok (.istore 7, 2) := by decide +kernel
theorem dX3_worth_108 : decode cX3_worth 108 = .ok (.aload_n 0, 1) := by decide +kernel
theorem dX3_worth_109 : decode cX3_worth 109 = .ok (.bipush 63, 2) := by decide +kernel
theorem dX3_worth_111 : decode cX3_worth 111 = .ok (.invokevirtual 46, 3) := by decide +kernel
theorem dX3_worth_114 : decode cX3_worth 114 = .ok (.aload_n 0, 1) := by decide +kernel
theorem dX3_worth_115 : decode cX3_worth 115 = .ok (.iconst 0, 1) := by decide +kernel
theorem dX3_worth_116 : decode cX3_worth 116 = .ok (.invokevirtual 54, 3) := by decide +kernel
theorem dX3_worth_119 : decode cX3_worth 119 = .ok (.istore 6, 2) := by decide +kernel
theorem dX3_worth_121 : decode cX3_worth 121 = .ok (.iload 7, 2) := by decide +kernel
theorem dX3_worth_123 : decode cX3_worth 123 = .ok (.ifCond .eq 12, 3) := by decide +kernel
theorem dX3_worth_126 : decode cX3_worth 126 = .ok (.iload_n 1, 1) := by decide +kernel
theorem dX3_worth_127 : decode cX3_worth 127 = .ok (.ifCond .ne 8, 3) := by decide +kernel
theorem dX3_worth_130 : decode cX3_worth 130 = .ok (.iconst 1, 1) := by decide +kernel
theorem dX3_worth_131 : decode cX3_worth 131 = .ok (.istore_n 1, 1) := by decide +kernel
theorem dX3_worth_132 : decode cX3_worth 132 = .ok (.iload 6, 2) := by decide +kernel
theorem dX3_worth_134 : decode cX3_worth 134 = .ok (.istore_n 2, 1) := by decide +kernel
theorem dX3_worth_135 : decode cX3_worth 135 = .ok (.aload_n 0, 1) := by decide +kernel
theorem dX3_worth_136 : decode cX3_worth 136 = .ok (.invokevirtual 50, 3) := by decide +kernel
theorem dX3_worth_139 : decode cX3_worth 139 = .ok (.bipush 59, 2) := by decide +kernel
theorem dX3_worth_141 : decode cX3_worth 141 = .ok (.if_icmp .eq 6, 3) := by decide +kernel
theorem dX3_worth_144 : decode cX3_worth 144 = .ok (.goto 19, 3) := by decide +kernel
theorem dX3_worth_147 : decode cX3_worth 147 = .ok (.aload_n 0, 1) := by decide +kernel
theorem dX3_worth_148 : decode cX3_worth 148 = .ok (.dup, 1) := by decide +kernel
theorem dX3_worth_149 : decode cX3_worth 149 = .ok (.getfield 43, 3) := by decide +kernel
theorem dX3_worth_152 : decode cX3_worth 152 = .ok (.iconst 1, 1) := by decide +kernel
theorem dX3_worth_153 : decode cX3_worth 153 = .ok (.iadd, 1) := by decide +kernel
theorem dX3_worth_154 : decode cX3_worth 154 = .ok (.putfield 43, 3) := by decide +kernel
theorem dX3_worth_157 : decode cX3_worth 157 = .ok (.iinc 3 1, 3) := by decide +kernel
theorem dX3_worth_160 : decode cX3_worth 160 = .ok (.goto (-144), 3) := by decide +kernel
theorem dX3_worth_163 : decode cX3_worth 163 = .ok (.aload_n 0, 1) := by decide +kernel
theorem dX3_worth_164 : decode cX3_worth 164 = .ok (.getfield 43, 3) := by decide +kernel
theorem dX3_worth_167 : decode cX3_worth 167 = .ok (.aload_n 0, 1) := by decide +kernel
theorem dX3_worth_168 : decode cX3_worth 168 = .ok (.getfield 32, 3) := by decide +kernel
theorem dX3_worth_171 : decode cX3_worth 171 = .ok (.if_icmp .ge 7, 3) := by decide +kernel
theorem dX3_worth_174 : decode cX3_worth 174 = .ok (.aload_n 0, 1) := by decide +kernel
theorem dX3_worth_175 : decode cX3_worth 175 = .ok (.invokevirtual 66, 3) := by decide +kernel
theorem dX3_worth_178 : decode cX3_worth 178 = .ok (.iload_n 2, 1) := by decide +kernel
theorem dX3_worth_179 : decode cX3_worth 179 = .ok (.ireturn, 1) := by decide +kernel
theorem dX3_condition_0 : decode cX3_condition 0 = .ok (.iconst 0, 1) := by decide +kernel
theorem dX3_condition_1 : decode cX3_condition 1 = .ok (.istore 4, 2) := by decide +kernel
theorem dX3_condition_3 : decode cX3_condition 3 = .ok (.aload_n 0, 1) := by decide +kernel
theorem dX3_condition_4 : decode cX3_condition 4 = .ok (.iload_n 1, 1) := by decide +kernel
theorem dX3_condition_5 : decode cX3_condition 5 = .ok (.iload_n 2, 1) := by decide +kernel
theorem dX3_condition_6 : decode cX3_condition 6 = .ok (.iload_n 3, 1) := by decide +kernel
theorem dX3_condition_7 : decode cX3_condition 7 = .ok (.invokevirtual 69, 3) := by decide +kernel
theorem dX3_condition_10 : decode cX3_condition 10 = .ok (.istore 5, 2) := by decide +kernel
theorem dX3_condition_12 : decode cX3_condition 12 = .ok (.iconst 0, 1) := by decide +kernel
theorem dX3_condition_13 : decode cX3_condition 13 = .ok (.istore 6, 2) := by decide +kernel
theorem dX3_condition_15 : decode cX3_condition 15 = .ok (.iload 6, 2) := by decide +kernel
theorem dX3_condition_17 : decode cX3_condition 17 = .ok (.aload_n 0, 1) := by decide +kernel
theorem dX3_condition_18 : decode cX3_condition 18 = .ok (.getfield 32, 3) := by decide +kernel
theorem dX3_condition_21 : decode cX3_condition 21 = .ok (.if_icmp .ge 99, 3) := by decide +kernel
theorem dX3_condition_24 : decode cX3_condition 24 = .ok (.aload_n 0, 1) := by decide +kernel
theorem dX3_condition_25 : decode cX3_condition 25 = .ok (.invokevirtual 50, 3) := by decide +kernel
theorem dX3_condition_28 : decode cX3_condition 28 = .ok (.istore 7, 2) := by decide +kernel
theorem dX3_condition_30 : decode cX3_condition 30 = .ok (.iload 7, 2) := by decide +kernel
theorem dX3_condition_32 : decode cX3_condition 32 = .ok (.bipush 38, 2) := by decide +kernel
theorem dX3_condition_34 : decode cX3_condition 34 = .ok (.if_icmp .eq 13, 3) := by decide +kernel
theorem dX3_condition_37 : decode cX3_condition 37 = .ok (.iload 7, 2) := by decide +kernel
theorem dX3_condition_39 : decode cX3_condition 39 = .ok (.bipush 124, 2) := by decide +kernel
theorem dX3_condition_41 : decode cX3_condition 41 = .ok (.if_icmp .eq 6, 3) := by decide +kernel
theorem dX3_condition_44 : decode cX3_condition 44 = .ok (.goto 76, 3) := by decide +kernel
theorem dX3_condition_47 : decode cX3_condition 47 = .ok (.aload_n 0, 1) := by decide +kernel
theorem dX3_condition_48 : decode cX3_condition 48 = .ok (.dup, 1) := by decide +kernel
theorem dX3_condition_49 : decode cX3_condition 49 = .ok (.getfield 43, 3) := by decide +kernel
theorem dX3_condition_52 : decode cX3_condition 52 = .ok (.iconst 1, 1) := by decide +kernel
theorem dX3_condition_53 : decode cX3_condition 53 = .ok (.iadd, 1) := by decide +kernel
theorem dX3_condition_54 : decode cX3_condition 54 = .ok (.putfield 43, 3) := by decide +kernel
theorem dX3_condition_57 : decode cX3_condition 57 = .ok (.aload_n 0, 1) := by decide +kernel
theorem dX3_condition_58 : decode cX3_condition 58 = .ok (.iload_n 1, 1) := by decide +kernel
theorem dX3_condition_59 : decode cX3_condition 59 = .ok (.iconst 0, 1) := by decide +kernel
theorem dX3_condition_60 : decode cX3_condition 60 = .ok (.iconst 0, 1) := by decide +kernel
theorem dX3_condition_61 : decode cX3_condition 61 = .ok (.invokevirtual 69, 3) := by decide +kernel
theorem dX3_condition_64 : decode cX3_condition 64 = .ok (.istore 8, 2) := by decide +kernel
theorem dX3_condition_66 : decode cX3_condition 66 = .ok (.iload 7, 2) := by decide +kernel
theorem dX3_condition_68 : decode cX3_condition 68 = .ok (.bipush 38, 2) := by decide +kernel
theorem dX3_condition_70 : decode cX3_condition 70 = .ok (.if_icmp .ne 23, 3) := by decide +kernel
theorem dX3_condition_73 : decode cX3_condition 73 = .ok (.iload 5, 2) := by decide +kernel
theorem dX3_condition_75 : decode cX3_condition 75 = .ok (.ifCond .eq 12, 3) := by decide +kernel
theorem dX3_condition_78 : decode cX3_condition 78 = .ok (.iload 8, 2) := by decide +kernel
theorem dX3_condition_80 : decode cX3_condition 80 = .ok (.ifCond .eq 7, 3) := by decide +kernel
theorem dX3_condition_83 : decode cX3_condition 83 = .ok (.iconst 1, 1) := by decide +kernel
theorem dX3_condition_84 : decode cX3_condition 84 = .ok (.goto 4, 3) := by decide +kernel
theorem dX3_condition_87 : decode cX3_condition 87 = .ok (.iconst 0, 1) := by decide +kernel
theorem dX3_condition_88 : decode cX3_condition 88 = .ok (.istore 5, 2) := by decide +kernel
theorem dX3_condition_90 : decode cX3_condition 90 = .ok (.goto 24, 3) := by decide +kernel
theorem dX3_condition_93 : decode cX3_condition 93 = .ok (.iload 4, 2) := by decide +kernel
theorem dX3_condition_95 : decode cX3_condition 95 = .ok (.ifCond .ne 8, 3) := by decide +kernel
theorem dX3_condition_98 : decode cX3_condition 98 = .ok (.iload 5, 2) := by decide +kernel
theorem dX3_condition_100 : decode cX3_condition 100 = .ok (.ifCond .eq 7, 3) := by decide +kernel
theorem dX3_condition_103 : decode cX3_condition 103 = .ok (.iconst 1, 1) := by decide +kernel
theorem dX3_condition_104 : decode cX3_condition 104 = .ok (.goto 4, 3) := by decide +kernel
theorem dX3_condition_107 : decode cX3_condition 107 = .ok (.iconst 0, 1) := by decide +kernel
theorem dX3_condition_108 : decode cX3_condition 108 = .ok (.istore 4, 2) := by decide +kernel
theorem dX3_condition_110 : decode cX3_condition 110 = .ok (.iload 8, 2) := by decide +kernel
theorem dX3_condition_112 : decode cX3_condition 112 = .ok (.istore 5, 2) := by decide +kernel
theorem dX3_condition_114 : decode cX3_condition 114 = .ok (.iinc 6 1, 3) := by decide +kernel
theorem dX3_condition_117 : decode cX3_condition 117 = .ok (.goto (-102), 3) := by decide +kernel
theorem dX3_condition_120 : decode cX3_condition 120 = .ok (.iload 4, 2) := by decide +kernel
theorem dX3_condition_122 : decode cX3_condition 122 = .ok (.ifCond .ne 8, 3) := by decide +kernel
theorem dX3_condition_125 : decode cX3_condition 125 = .ok (.iload 5, 2) := by decide +kernel
theorem dX3_condition_127 : decode cX3_condition 127 = .ok (.ifCond .eq 7, 3) := by decide +kernel
theorem dX3_condition_130 : decode cX3_condition 130 = .ok (.iconst 1, 1) := by decide +kernel
theorem dX3_condition_131 : decode cX3_condition 131 = .ok (.goto 4, 3) := by decide +kernel
theorem dX3_condition_134 : decode cX3_condition 134 = .ok (.iconst 0, 1) := by decide +kernel
theorem dX3_condition_135 : decode cX3_condition 135 = .ok (.ireturn, 1) := by decide +kernel
theorem dX3_unit_0 : decode cX3_unit 0 = .ok (.iload_n 2, 1) := by decide +kernel
theorem dX3_unit_1 : decode cX3_unit 1 = .ok (.ifCond .eq 7, 3) := by decide +kernel
theorem dX3_unit_4 : decode cX3_unit 4 = .ok (.iconst (-1), 1) := by decide +kernel
theorem dX3_unit_5 : decode cX3_unit 5 = .ok (.goto 7, 3) := by decide +kernel
theorem dX3_unit_8 : decode cX3_unit 8 = .ok (.aload_n 0, 1) := by decide +kernel
theorem dX3_unit_9 : decode cX3_unit 9 = .ok (.invokevirtual 50, 3) := by decide +kernel
theorem dX3_unit_12 : decode cX3_unit 12 = .ok (.istore 4, 2) := by decide +kernel
theorem dX3_unit_14 : decode cX3_unit 14 = .ok (.iload 4, 2) := by decide +kernel
theorem dX3_unit_16 : decode cX3_unit 16 = .ok (.bipush 33, 2) := by decide +kernel
theorem dX3_unit_18 : decode cX3_unit 18 = .ok (.if_icmp .ne 29, 3) := by decide +kernel
theorem dX3_unit_21 : decode cX3_unit 21 = .ok (.aload_n 0, 1) := by decide +kernel
theorem dX3_unit_22 : decode cX3_unit 22 = .ok (.iload_n 1, 1) := by decide +kernel
theorem dX3_unit_23 : decode cX3_unit 23 = .ok (.invokevirtual 72, 3) := by decide +kernel
theorem dX3_unit_26 : decode cX3_unit 26 = .ok (.ifCond .eq 21, 3) := by decide +kernel
theorem dX3_unit_29 : decode cX3_unit 29 = .ok (.aload_n 0, 1) := by decide +kernel
theorem dX3_unit_30 : decode cX3_unit 30 = .ok (.iload_n 1, 1) := by decide +kernel
theorem dX3_unit_31 : decode cX3_unit 31 = .ok (.iconst 1, 1) := by decide +kernel
theorem dX3_unit_32 : decode cX3_unit 32 = .ok (.iadd, 1) := by decide +kernel
theorem dX3_unit_33 : decode cX3_unit 33 = .ok (.iconst 0, 1) := by decide +kernel
theorem dX3_unit_34 : decode cX3_unit 34 = .ok (.iconst 0, 1) := by decide +kernel
theorem dX3_unit_35 : decode cX3_unit 35 = .ok (.invokevirtual 69, 3) := by decide +kernel
theorem dX3_unit_38 : decode cX3_unit 38 = .ok (.ifCond .ne 7, 3) := by decide +kernel
theorem dX3_unit_41 : decode cX3_unit 41 = .ok (.iconst 1, 1) := by decide +kernel
theorem dX3_unit_42 : decode cX3_unit 42 = .ok (.goto 4, 3) := by decide +kernel
theorem dX3_unit_45 : decode cX3_unit 45 = .ok (.iconst 0, 1) := by decide +kernel
theorem dX3_unit_46 : decode cX3_unit 46 = .ok (.ireturn, 1) := by decide +kernel
theorem dX3_unit_47 : decode cX3_unit 47 = .ok (.iload 4, 2) := by decide +kernel
theorem dX3_unit_49 : decode cX3_unit 49 = .ok (.bipush 40, 2) := by decide +kernel
theorem dX3_unit_51 : decode cX3_unit 51 = .ok (.if_icmp .ne 31, 3) := by decide +kernel
theorem dX3_unit_54 : decode cX3_unit 54 = .ok (.aload_n 0, 1) := by decide +kernel
theorem dX3_unit_55 : decode cX3_unit 55 = .ok (.iload_n 1, 1) := by decide +kernel
theorem dX3_unit_56 : decode cX3_unit 56 = .ok (.invokevirtual 72, 3) := by decide +kernel
theorem dX3_unit_59 : decode cX3_unit 59 = .ok (.ifCond .eq 23, 3) := by decide +kernel
theorem dX3_unit_62 : decode cX3_unit 62 = .ok (.aload_n 0, 1) := by decide +kernel
theorem dX3_unit_63 : decode cX3_unit 63 = .ok (.iload_n 1, 1) := by decide +kernel
theorem dX3_unit_64 : decode cX3_unit 64 = .ok (.iconst 1, 1) := by decide +kernel
theorem dX3_unit_65 : decode cX3_unit 65 = .ok (.iadd, 1) := by decide +kernel
theorem dX3_unit_66 : decode cX3_unit 66 = .ok (.iconst 0, 1) := by decide +kernel
theorem dX3_unit_67 : decode cX3_unit 67 = .ok (.iconst 0, 1) := by decide +kernel
theorem dX3_unit_68 : decode cX3_unit 68 = .ok (.invokevirtual 62, 3) := by decide +kernel
theorem dX3_unit_71 : decode cX3_unit 71 = .ok (.istore 5, 2) := by decide +kernel
theorem dX3_unit_73 : decode cX3_unit 73 = .ok (.aload_n 0, 1) := by decide +kernel
theorem dX3_unit_74 : decode cX3_unit 74 = .ok (.bipush 41, 2) := by decide +kernel
theorem dX3_unit_76 : decode cX3_unit 76 = .ok (.invokevirtual 46, 3) := by decide +kernel
theorem dX3_unit_79 : decode cX3_unit 79 = .ok (.iload 5, 2) := by decide +kernel
theorem dX3_unit_81 : decode cX3_unit 81 = .ok (.ireturn, 1) := by decide +kernel
theorem dX3_unit_82 : decode cX3_unit 82 = .ok (.iload_n 2, 1) := by decide +kernel
theorem dX3_unit_83 : decode cX3_unit 83 = .ok (.ifCond .eq 7, 3) := by decide +kernel
theorem dX3_unit_86 : decode cX3_unit 86 = .ok (.iload_n 3, 1) := by decide +kernel
theorem dX3_unit_87 : decode cX3_unit 87 = .ok (.goto 8, 3) := by decide +kernel
theorem dX3_unit_90 : decode cX3_unit 90 = .ok (.aload_n 0, 1) := by decide +kernel
theorem dX3_unit_91 : decode cX3_unit 91 = .ok (.iload_n 1, 1) := by decide +kernel
theorem dX3_unit_92 : decode cX3_unit 92 = .ok (.invokevirtual 54, 3) := by decide +kernel
theorem dX3_unit_95 : decode cX3_unit 95 = .ok (.istore 5, 2) := by decide +kernel
theorem dX3_unit_97 : decode cX3_unit 97 = .ok (.aload_n 0, 1) := by decide +kernel
theorem dX3_unit_98 : decode cX3_unit 98 = .ok (.invokevirtual 50, 3) := by decide +kernel
theorem dX3_unit_101 : decode cX3_unit 101 = .ok (.istore 6, 2) := by decide +kernel
theorem dX3_unit_103 : decode cX3_unit 103 = .ok (.iload 6, 2) := by decide +kernel
theorem dX3_unit_105 : decode cX3_unit 105 = .ok (.invokestatic 58, 3) := by decide +kernel
theorem dX3_unit_108 : decode cX3_unit 108 = .ok (.ifCond .ne 9, 3) := by decide +kernel
theorem dX3_unit_111 : decode cX3_unit 111 = .ok (.aload_n 0, 1) := by decide +kernel
theorem dX3_unit_112 : decode cX3_unit 112 = .ok (.invokevirtual 66, 3) := by decide +kernel
theorem dX3_unit_115 : decode cX3_unit 115 = .ok (.iconst 0, 1) := by decide +kernel
theorem dX3_unit_116 : decode cX3_unit 116 = .ok (.ireturn, 1) := by decide +kernel
theorem dX3_unit_117 : decode cX3_unit 117 = .ok (.aload_n 0, 1) := by decide +kernel
theorem dX3_unit_118 : decode cX3_unit 118 = .ok (.dup, 1) := by decide +kernel
theorem dX3_unit_119 : decode cX3_unit 119 = .ok (.getfield 43, 3) := by decide +kernel
theorem dX3_unit_122 : decode cX3_unit 122 = .ok (.iconst 1, 1) := by decide +kernel
theorem dX3_unit_123 : decode cX3_unit 123 = .ok (.iadd, 1) := by decide +kernel
theorem dX3_unit_124 : decode cX3_unit 124 = .ok (.putfield 43, 3) := by decide +kernel
theorem dX3_unit_127 : decode cX3_unit 127 = .ok (.aload_n 0, 1) := by decide +kernel
theorem dX3_unit_128 : decode cX3_unit 128 = .ok (.iload_n 1, 1) := by decide +kernel
theorem dX3_unit_129 : decode cX3_unit 129 = .ok (.invokevirtual 54, 3) := by decide +kernel
theorem dX3_unit_132 : decode cX3_unit 132 = .ok (.istore 7, 2) := by decide +kernel
theorem dX3_unit_134 : decode cX3_unit 134 = .ok (.iload 6, 2) := by decide +kernel
theorem dX3_unit_136 : decode cX3_unit 136 = .ok (.bipush 61, 2) := by decide +kernel
theorem dX3_unit_138 : decode cX3_unit 138 = .ok (.if_icmp .ne 16, 3) := by decide +kernel
theorem dX3_unit_141 : decode cX3_unit 141 = .ok (.iload 5, 2) := by decide +kernel
theorem dX3_unit_143 : decode cX3_unit 143 = .ok (.iload 7, 2) := by decide +kernel
theorem dX3_unit_145 : decode cX3_unit 145 = .ok (.if_icmp .ne 7, 3) := by decide +kernel
theorem dX3_unit_148 : decode cX3_unit 148 = .ok (.iconst 1, 1) := by decide +kernel
theorem dX3_unit_149 : decode cX3_unit 149 = .ok (.goto 4, 3) := by decide +kernel
theorem dX3_unit_152 : decode cX3_unit 152 = .ok (.iconst 0, 1) := by decide +kernel
theorem dX3_unit_153 : decode cX3_unit 153 = .ok (.ireturn, 1) := by decide +kernel
theorem dX3_unit_154 : decode cX3_unit 154 = .ok (.iload 6, 2) := by decide +kernel
theorem dX3_unit_156 : decode cX3_unit 156 = .ok (.bipush 60, 2) := by decide +kernel
theorem dX3_unit_158 : decode cX3_unit 158 = .ok (.if_icmp .ne 18, 3) := by decide +kernel
theorem dX3_unit_161 : decode cX3_unit 161 = .ok (.iload 5, 2) := by decide +kernel
theorem dX3_unit_163 : decode cX3_unit 163 = .ok (.iload 7, 2) := by decide +kernel
theorem dX3_unit_165 : decode cX3_unit 165 = .ok (.if_icmp .ge 7, 3) := by decide +kernel
theorem dX3_unit_168 : decode cX3_unit 168 = .ok (.iconst 1, 1) := by decide +kernel
theorem dX3_unit_169 : decode cX3_unit 169 = .ok (.goto 19, 3) := by decide +kernel
theorem dX3_unit_172 : decode cX3_unit 172 = .ok (.iconst 0, 1) := by decide +kernel
theorem dX3_unit_173 : decode cX3_unit 173 = .ok (.goto 15, 3) := by decide +kernel
theorem dX3_unit_176 : decode cX3_unit 176 = .ok (.iload 5, 2) := by decide +kernel
theorem dX3_unit_178 : decode cX3_unit 178 = .ok (.iload 7, 2) := by decide +kernel
theorem dX3_unit_180 : decode cX3_unit 180 = .ok (.if_icmp .le 7, 3) := by decide +kernel
theorem dX3_unit_183 : decode cX3_unit 183 = .ok (.iconst 1, 1) := by decide +kernel
theorem dX3_unit_184 : decode cX3_unit 184 = .ok (.goto 4, 3) := by decide +kernel
theorem dX3_unit_187 : decode cX3_unit 187 = .ok (.iconst 0, 1) := by decide +kernel
theorem dX3_unit_188 : decode cX3_unit 188 = .ok (.ireturn, 1) := by decide +kernel
theorem dX3_sum_0 : decode cX3_sum 0 = .ok (.iconst 0, 1) := by decide +kernel
theorem dX3_sum_1 : decode cX3_sum 1 = .ok (.istore_n 2, 1) := by decide +kernel
theorem dX3_sum_2 : decode cX3_sum 2 = .ok (.bipush 43, 2) := by decide +kernel
theorem dX3_sum_4 : decode cX3_sum 4 = .ok (.istore_n 3, 1) := by decide +kernel
theorem dX3_sum_5 : decode cX3_sum 5 = .ok (.aload_n 0, 1) := by decide +kernel
theorem dX3_sum_6 : decode cX3_sum 6 = .ok (.iload_n 1, 1) := by decide +kernel
theorem dX3_sum_7 : decode cX3_sum 7 = .ok (.invokevirtual 75, 3) := by decide +kernel
theorem dX3_sum_10 : decode cX3_sum 10 = .ok (.istore 4, 2) := by decide +kernel
theorem dX3_sum_12 : decode cX3_sum 12 = .ok (.iconst 0, 1) := by decide +kernel
theorem dX3_sum_13 : decode cX3_sum 13 = .ok (.istore 5, 2) := by decide +kernel
theorem dX3_sum_15 : decode cX3_sum 15 = .ok (.iload 5, 2) := by decide +kernel
theorem dX3_sum_17 : decode cX3_sum 17 = .ok (.aload_n 0, 1) := by decide +kernel
theorem dX3_sum_18 : decode cX3_sum 18 = .ok (.getfield 32, 3) := by decide +kernel
theorem dX3_sum_21 : decode cX3_sum 21 = .ok (.if_icmp .ge 106, 3) := by decide +kernel
theorem dX3_sum_24 : decode cX3_sum 24 = .ok (.aload_n 0, 1) := by decide +kernel
theorem dX3_sum_25 : decode cX3_sum 25 = .ok (.invokevirtual 50, 3) := by decide +kernel
theorem dX3_sum_28 : decode cX3_sum 28 = .ok (.istore 6, 2) := by decide +kernel
theorem dX3_sum_30 : decode cX3_sum 30 = .ok (.iload 6, 2) := by decide +kernel
theorem dX3_sum_32 : decode cX3_sum 32 = .ok (.bipush 43, 2) := by decide +kernel
theorem dX3_sum_34 : decode cX3_sum 34 = .ok (.if_icmp .eq 27, 3) := by decide +kernel
theorem dX3_sum_37 : decode cX3_sum 37 = .ok (.iload 6, 2) := by decide +kernel
theorem dX3_sum_39 : decode cX3_sum 39 = .ok (.bipush 45, 2) := by decide +kernel
theorem dX3_sum_41 : decode cX3_sum 41 = .ok (.if_icmp .eq 20, 3) := by decide +kernel
theorem dX3_sum_44 : decode cX3_sum 44 = .ok (.iload 6, 2) := by decide +kernel
theorem dX3_sum_46 : decode cX3_sum 46 = .ok (.bipush 42, 2) := by decide +kernel
theorem dX3_sum_48 : decode cX3_sum 48 = .ok (.if_icmp .eq 13, 3) := by decide +kernel
theorem dX3_sum_51 : decode cX3_sum 51 = .ok (.iload 6, 2) := by decide +kernel
theorem dX3_sum_53 : decode cX3_sum 53 = .ok (.bipush 47, 2) := by decide +kernel
theorem dX3_sum_55 : decode cX3_sum 55 = .ok (.if_icmp .eq 6, 3) := by decide +kernel
theorem dX3_sum_58 : decode cX3_sum 58 = .ok (.goto 69, 3) := by decide +kernel
theorem dX3_sum_61 : decode cX3_sum 61 = .ok (.aload_n 0, 1) := by decide +kernel
theorem dX3_sum_62 : decode cX3_sum 62 = .ok (.dup, 1) := by decide +kernel
theorem dX3_sum_63 : decode cX3_sum 63 = .ok (.getfield 43, 3) := by decide +kernel
theorem dX3_sum_66 : decode cX3_sum 66 = .ok (.iconst 1, 1) := by decide +kernel
theorem dX3_sum_67 : decode cX3_sum 67 = .ok (.iadd, 1) := by decide +kernel
theorem dX3_sum_68 : decode cX3_sum 68 = .ok (.putfield 43, 3) := by decide +kernel
theorem dX3_sum_71 : decode cX3_sum 71 = .ok (.aload_n 0, 1) := by decide +kernel
theorem dX3_sum_72 : decode cX3_sum 72 = .ok (.iload_n 1, 1) := by decide +kernel
theorem dX3_sum_73 : decode cX3_sum 73 = .ok (.invokevirtual 75, 3) := by decide +kernel
theorem dX3_sum_76 : decode cX3_sum 76 = .ok (.istore 7, 2) := by decide +kernel
theorem dX3_sum_78 : decode cX3_sum 78 = .ok (.iload 6, 2) := by decide +kernel
theorem dX3_sum_80 : decode cX3_sum 80 = .ok (.bipush 42, 2) := by decide +kernel
theorem dX3_sum_82 : decode cX3_sum 82 = .ok (.if_icmp .eq 10, 3) := by decide +kernel
theorem dX3_sum_85 : decode cX3_sum 85 = .ok (.iload 6, 2) := by decide +kernel
theorem dX3_sum_87 : decode cX3_sum 87 = .ok (.bipush 47, 2) := by decide +kernel
theorem dX3_sum_89 : decode cX3_sum 89 = .ok (.if_icmp .ne 17, 3) := by decide +kernel
theorem dX3_sum_92 : decode cX3_sum 92 = .ok (.iload 4, 2) := by decide +kernel
theorem dX3_sum_94 : decode cX3_sum 94 = .ok (.iload 6, 2) := by decide +kernel
theorem dX3_sum_96 : decode cX3_sum 96 = .ok (.iload 7, 2) := by decide +kernel
theorem dX3_sum_98 : decode cX3_sum 98 = .ok (.invokestatic 78, 3) := by decide +kernel
theorem dX3_sum_101 : decode cX3_sum 101 = .ok (.istore 4, 2) := by decide +kernel
theorem dX3_sum_103 : decode cX3_sum 103 = .ok (.goto 18, 3) := by decide +kernel
theorem dX3_sum_106 : decode cX3_sum 106 = .ok (.iload_n 2, 1) := by decide +kernel
theorem dX3_sum_107 : decode cX3_sum 107 = .ok (.iload_n 3, 1) := by decide +kernel
theorem dX3_sum_108 : decode cX3_sum 108 = .ok (.iload 4, 2) := by decide +kernel
theorem dX3_sum_110 : decode cX3_sum 110 = .ok (.invokestatic 78, 3) := by decide +kernel
theorem dX3_sum_113 : decode cX3_sum 113 = .ok (.istore_n 2, 1) := by decide +kernel
theorem dX3_sum_114 : decode cX3_sum 114 = .ok (.iload 6, 2) := by decide +kernel
theorem dX3_sum_116 : decode cX3_sum 116 = .ok (.istore_n 3, 1) := by decide +kernel
theorem dX3_sum_117 : decode cX3_sum 117 = .ok (.iload 7, 2) := by decide +kernel
theorem dX3_sum_119 : decode cX3_sum 119 = .ok (.istore 4, 2) := by decide +kernel
theorem dX3_sum_121 : decode cX3_sum 121 = .ok (.iinc 5 1, 3) := by decide +kernel
theorem dX3_sum_124 : decode cX3_sum 124 = .ok (.goto (-109), 3) := by decide +kernel
theorem dX3_sum_127 : decode cX3_sum 127 = .ok (.iload_n 2, 1) := by decide +kernel
theorem dX3_sum_128 : decode cX3_sum 128 = .ok (.iload_n 3, 1) := by decide +kernel
theorem dX3_sum_129 : decode cX3_sum 129 = .ok (.iload 4, 2) := by decide +kernel
theorem dX3_sum_131 : decode cX3_sum 131 = .ok (.invokestatic 78, 3) := by decide +kernel
theorem dX3_sum_134 : decode cX3_sum 134 = .ok (.ireturn, 1) := by decide +kernel
theorem dX3_atom_0 : decode cX3_atom 0 = .ok (.aload_n 0, 1) := by decide +kernel
theorem dX3_atom_1 : decode cX3_atom 1 = .ok (.invokevirtual 50, 3) := by decide +kernel
theorem dX3_atom_4 : decode cX3_atom 4 = .ok (.istore_n 2, 1) := by decide +kernel
theorem dX3_atom_5 : decode cX3_atom 5 = .ok (.iload_n 2, 1) := by decide +kernel
theorem dX3_atom_6 : decode cX3_atom 6 = .ok (.bipush 91, 2) := by decide +kernel
theorem dX3_atom_8 : decode cX3_atom 8 = .ok (.if_icmp .ne 27, 3) := by decide +kernel
theorem dX3_atom_11 : decode cX3_atom 11 = .ok (.aload_n 0, 1) := by decide +kernel
theorem dX3_atom_12 : decode cX3_atom 12 = .ok (.iload_n 1, 1) := by decide +kernel
theorem dX3_atom_13 : decode cX3_atom 13 = .ok (.invokevirtual 72, 3) := by decide +kernel
theorem dX3_atom_16 : decode cX3_atom 16 = .ok (.ifCond .eq 19, 3) := by decide +kernel
theorem dX3_atom_19 : decode cX3_atom 19 = .ok (.aload_n 0, 1) := by decide +kernel
theorem dX3_atom_20 : decode cX3_atom 20 = .ok (.iload_n 1, 1) := by decide +kernel
theorem dX3_atom_21 : decode cX3_atom 21 = .ok (.iconst 1, 1) := by decide +kernel
theorem dX3_atom_22 : decode cX3_atom 22 = .ok (.iadd, 1) := by decide +kernel
theorem dX3_atom_23 : decode cX3_atom 23 = .ok (.invokevirtual 54, 3) := by decide +kernel
theorem dX3_atom_26 : decode cX3_atom 26 = .ok (.istore_n 3, 1) := by decide +kernel
theorem dX3_atom_27 : decode cX3_atom 27 = .ok (.aload_n 0, 1) := by decide +kernel
theorem dX3_atom_28 : decode cX3_atom 28 = .ok (.bipush 93, 2) := by decide +kernel
theorem dX3_atom_30 : decode cX3_atom 30 = .ok (.invokevirtual 46, 3) := by decide +kernel
theorem dX3_atom_33 : decode cX3_atom 33 = .ok (.iload_n 3, 1) := by decide +kernel
theorem dX3_atom_34 : decode cX3_atom 34 = .ok (.ireturn, 1) := by decide +kernel
theorem dX3_atom_35 : decode cX3_atom 35 = .ok (.iload_n 2, 1) := by decide +kernel
theorem dX3_atom_36 : decode cX3_atom 36 = .ok (.invokestatic 81, 3) := by decide +kernel
theorem dX3_atom_39 : decode cX3_atom 39 = .ok (.ifCond .eq 8, 3) := by decide +kernel
theorem dX3_atom_42 : decode cX3_atom 42 = .ok (.aload_n 0, 1) := by decide +kernel
theorem dX3_atom_43 : decode cX3_atom 43 = .ok (.invokevirtual 84, 3) := by decide +kernel
theorem dX3_atom_46 : decode cX3_atom 46 = .ok (.ireturn, 1) := by decide +kernel
theorem dX3_atom_47 : decode cX3_atom 47 = .ok (.iload_n 2, 1) := by decide +kernel
theorem dX3_atom_48 : decode cX3_atom 48 = .ok (.invokestatic 87, 3) := by decide +kernel
theorem dX3_atom_51 : decode cX3_atom 51 = .ok (.istore_n 3, 1) := by decide +kernel
theorem dX3_atom_52 : decode cX3_atom 52 = .ok (.iload_n 3, 1) := by decide +kernel
theorem dX3_atom_53 : decode cX3_atom 53 = .ok (.iconst (-1), 1) := by decide +kernel
theorem dX3_atom_54 : decode cX3_atom 54 = .ok (.if_icmp .ne 9, 3) := by decide +kernel
theorem dX3_atom_57 : decode cX3_atom 57 = .ok (.aload_n 0, 1) := by decide +kernel
theorem dX3_atom_58 : decode cX3_atom 58 = .ok (.invokevirtual 66, 3) := by decide +kernel
theorem dX3_atom_61 : decode cX3_atom 61 = .ok (.iconst 0, 1) := by decide +kernel
theorem dX3_atom_62 : decode cX3_atom 62 = .ok (.ireturn, 1) := by decide +kernel
theorem dX3_atom_63 : decode cX3_atom 63 = .ok (.aload_n 0, 1) := by decide +kernel
theorem dX3_atom_64 : decode cX3_atom 64 = .ok (.dup, 1) := by decide +kernel
theorem dX3_atom_65 : decode cX3_atom 65 = .ok (.getfield 43, 3) := by decide +kernel
theorem dX3_atom_68 : decode cX3_atom 68 = .ok (.iconst 1, 1) := by decide +kernel
theorem dX3_atom_69 : decode cX3_atom 69 = .ok (.iadd, 1) := by decide +kernel
theorem dX3_atom_70 : decode cX3_atom 70 = .ok (.putfield 43, 3) := by decide +kernel
theorem dX3_atom_73 : decode cX3_atom 73 = .ok (.aload_n 0, 1) := by decide +kernel
theorem dX3_atom_74 : decode cX3_atom 74 = .ok (.getfield 23, 3) := by decide +kernel
theorem dX3_atom_77 : decode cX3_atom 77 = .ok (.iload_n 3, 1) := by decide +kernel
theorem dX3_atom_78 : decode cX3_atom 78 = .ok (.invokestatic 35, 3) := by decide +kernel
theorem dX3_atom_81 : decode cX3_atom 81 = .ok (.ireturn, 1) := by decide +kernel
theorem dX3_digits_0 : decode cX3_digits 0 = .ok (.iconst 0, 1) := by decide +kernel
theorem dX3_digits_1 : decode cX3_digits 1 = .ok (.istore_n 1, 1) := by decide +kernel
theorem dX3_digits_2 : decode cX3_digits 2 = .ok (.iconst 0, 1) := by decide +kernel
theorem dX3_digits_3 : decode cX3_digits 3 = .ok (.istore_n 2, 1) := by decide +kernel
theorem dX3_digits_4 : decode cX3_digits 4 = .ok (.iload_n 2, 1) := by decide +kernel
theorem dX3_digits_5 : decode cX3_digits 5 = .ok (.iconst 4, 1) := by decide +kernel
theorem dX3_digits_6 : decode cX3_digits 6 = .ok (.if_icmp .ge 66, 3) := by decide +kernel
theorem dX3_digits_9 : decode cX3_digits 9 = .ok (.aload_n 0, 1) := by decide +kernel
theorem dX3_digits_10 : decode cX3_digits 10 = .ok (.getfield 43, 3) := by decide +kernel
theorem dX3_digits_13 : decode cX3_digits 13 = .ok (.aload_n 0, 1) := by decide +kernel
theorem dX3_digits_14 : decode cX3_digits 14 = .ok (.getfield 32, 3) := by decide +kernel
theorem dX3_digits_17 : decode cX3_digits 17 = .ok (.if_icmp .ge 17, 3) := by decide +kernel
theorem dX3_digits_20 : decode cX3_digits 20 = .ok (.aload_n 0, 1) := by decide +kernel
theorem dX3_digits_21 : decode cX3_digits 21 = .ok (.getfield 17, 3) := by decide +kernel
theorem dX3_digits_24 : decode cX3_digits 24 = .ok (.aload_n 0, 1) := by decide +kernel
theorem dX3_digits_25 : decode cX3_digits 25 = .ok (.getfield 43, 3) := by decide +kernel
theorem dX3_digits_28 : decode cX3_digits 28 = .ok (.invokestatic 35, 3) := by decide +kernel
theorem dX3_digits_31 : decode cX3_digits 31 = .ok (.goto 4, 3) := by decide +kernel
theorem dX3_digits_34 : decode cX3_digits 34 = .ok (.iconst (-1), 1) := by decide +kernel
theorem dX3_digits_35 : decode cX3_digits 35 = .ok (.istore_n 3, 1) := by decide +kernel
theorem dX3_digits_36 : decode cX3_digits 36 = .ok (.iload_n 3, 1) := by decide +kernel
theorem dX3_digits_37 : decode cX3_digits 37 = .ok (.invokestatic 81, 3) := by decide +kernel
theorem dX3_digits_40 : decode cX3_digits 40 = .ok (.ifCond .ne 6, 3) := by decide +kernel
theorem dX3_digits_43 : decode cX3_digits 43 = .ok (.goto 29, 3) := by decide +kernel
theorem dX3_digits_46 : decode cX3_digits 46 = .ok (.iload_n 1, 1) := by decide +kernel
theorem dX3_digits_47 : decode cX3_digits 47 = .ok (.bipush 10, 2) := by decide +kernel
theorem dX3_digits_49 : decode cX3_digits 49 = .ok (.imul, 1) := by decide +kernel
theorem dX3_digits_50 : decode cX3_digits 50 = .ok (.iload_n 3, 1) := by decide +kernel
theorem dX3_digits_51 : decode cX3_digits 51 = .ok (.iadd, 1) := by decide +kernel
theorem dX3_digits_52 : decode cX3_digits 52 = .ok (.bipush 48, 2) := by decide +kernel
theorem dX3_digits_54 : decode cX3_digits 54 = .ok (.isub, 1) := by decide +kernel
theorem dX3_digits_55 : decode cX3_digits 55 = .ok (.istore_n 1, 1) := by decide +kernel
theorem dX3_digits_56 : decode cX3_digits 56 = .ok (.aload_n 0, 1) := by decide +kernel
theorem dX3_digits_57 : decode cX3_digits 57 = .ok (.dup, 1) := by decide +kernel
theorem dX3_digits_58 : decode cX3_digits 58 = .ok (.getfield 43, 3) := by decide +kernel
theorem dX3_digits_61 : decode cX3_digits 61 = .ok (.iconst 1, 1) := by decide +kernel
theorem dX3_digits_62 : decode cX3_digits 62 = .ok (.iadd, 1) := by decide +kernel
theorem dX3_digits_63 : decode cX3_digits 63 = .ok (.putfield 43, 3) := by decide +kernel
theorem dX3_digits_66 : decode cX3_digits 66 = .ok (.iinc 2 1, 3) := by decide +kernel
theorem dX3_digits_69 : decode cX3_digits 69 = .ok (.goto (-65), 3) := by decide +kernel
theorem dX3_digits_72 : decode cX3_digits 72 = .ok (.iload_n 1, 1) := by decide +kernel
theorem dX3_digits_73 : decode cX3_digits 73 = .ok (.ireturn, 1) := by decide +kernel
theorem dX3_isDigit_0 : decode cX3_isDigit 0 = .ok (.iload_n 0, 1) := by decide +kernel
theorem dX3_isDigit_1 : decode cX3_isDigit 1 = .ok (.bipush 48, 2) := by decide +kernel
theorem dX3_isDigit_3 : decode cX3_isDigit 3 = .ok (.if_icmp .lt 13, 3) := by decide +kernel
theorem dX3_isDigit_6 : decode cX3_isDigit 6 = .ok (.iload_n 0, 1) := by decide +kernel
theorem dX3_isDigit_7 : decode cX3_isDigit 7 = .ok (.bipush 57, 2) := by decide +kernel
theorem dX3_isDigit_9 : decode cX3_isDigit 9 = .ok (.if_icmp .gt 7, 3) := by decide +kernel
theorem dX3_isDigit_12 : decode cX3_isDigit 12 = .ok (.iconst 1, 1) := by decide +kernel
theorem dX3_isDigit_13 : decode cX3_isDigit 13 = .ok (.goto 4, 3) := by decide +kernel
theorem dX3_isDigit_16 : decode cX3_isDigit 16 = .ok (.iconst 0, 1) := by decide +kernel
theorem dX3_isDigit_17 : decode cX3_isDigit 17 = .ok (.ireturn, 1) := by decide +kernel
theorem dX3_isComparison_0 : decode cX3_isComparison 0 = .ok (.iload_n 0, 1) := by decide +kernel
theorem dX3_isComparison_1 : decode cX3_isComparison 1 = .ok (.bipush 61, 2) := by decide +kernel
theorem dX3_isComparison_3 : decode cX3_isComparison 3 = .ok (.if_icmp .eq 15, 3) := by decide +kernel
theorem dX3_isComparison_6 : decode cX3_isComparison 6 = .ok (.iload_n 0, 1) := by decide +kernel
theorem dX3_isComparison_7 : decode cX3_isComparison 7 = .ok (.bipush 60, 2) := by decide +kernel
theorem dX3_isComparison_9 : decode cX3_isComparison 9 = .ok (.if_icmp .eq 9, 3) := by decide +kernel
theorem dX3_isComparison_12 : decode cX3_isComparison 12 = .ok (.iload_n 0, 1) := by decide +kernel
theorem dX3_isComparison_13 : decode cX3_isComparison 13 = .ok (.bipush 62, 2) := by decide +kernel
theorem dX3_isComparison_15 : decode cX3_isComparison 15 = .ok (.if_icmp .ne 7, 3) := by decide +kernel
theorem dX3_isComparison_18 : decode cX3_isComparison 18 = .ok (.iconst 1, 1) := by decide +kernel
theorem dX3_isComparison_19 : decode cX3_isComparison 19 = .ok (.goto 4, 3) := by decide +kernel
theorem dX3_isComparison_22 : decode cX3_isComparison 22 = .ok (.iconst 0, 1) := by decide +kernel
theorem dX3_isComparison_23 : decode cX3_isComparison 23 = .ok (.ireturn, 1) := by decide +kernel
theorem dX3_bookOf_0 : decode cX3_bookOf 0 = .ok (.iload_n 0, 1) := by decide +kernel
theorem dX3_bookOf_1 : decode cX3_bookOf 1 = .ok (.lookupswitch 61 #[(102, 55), (112, 59), (115, 51), (119, 57), (120, 53)], 51) := by decide +kernel
theorem dX3_bookOf_52 : decode cX3_bookOf 52 = .ok (.iconst 0, 1) := by decide +kernel
theorem dX3_bookOf_53 : decode cX3_bookOf 53 = .ok (.ireturn, 1) := by decide +kernel
theorem dX3_bookOf_54 : decode cX3_bookOf 54 = .ok (.iconst 1, 1) := by decide +kernel
theorem dX3_bookOf_55 : decode cX3_bookOf 55 = .ok (.ireturn, 1) := by decide +kernel
theorem dX3_bookOf_56 : decode cX3_bookOf 56 = .ok (.iconst 2, 1) := by decide +kernel
theorem dX3_bookOf_57 : decode cX3_bookOf 57 = .ok (.ireturn, 1) := by decide +kernel
theorem dX3_bookOf_58 : decode cX3_bookOf 58 = .ok (.iconst 3, 1) := by decide +kernel
theorem dX3_bookOf_59 : decode cX3_bookOf 59 = .ok (.ireturn, 1) := by decide +kernel
theorem dX3_bookOf_60 : decode cX3_bookOf 60 = .ok (.iconst 4, 1) := by decide +kernel
theorem dX3_bookOf_61 : decode cX3_bookOf 61 = .ok (.ireturn, 1) := by decide +kernel
theorem dX3_bookOf_62 : decode cX3_bookOf 62 = .ok (.iconst (-1), 1) := by decide +kernel
theorem dX3_bookOf_63 : decode cX3_bookOf 63 = .ok (.ireturn, 1) := by decide +kernel
theorem dX3_reckoned_0 : decode cX3_reckoned 0 = .ok (.iload_n 0, 1) := by decide +kernel
theorem dX3_reckoned_1 : decode cX3_reckoned 1 = .ok (.i2l, 1) := by decide +kernel
theorem dX3_reckoned_2 : decode cX3_reckoned 2 = .ok (.lstore_n 3, 1) := by decide +kernel
theorem dX3_reckoned_3 : decode cX3_reckoned 3 = .ok (.iload_n 1, 1) := by decide +kernel
theorem dX3_reckoned_4 : decode cX3_reckoned 4 = .ok (.bipush 43, 2) := by decide +kernel
theorem dX3_reckoned_6 : decode cX3_reckoned 6 = .ok (.if_icmp .ne 11, 3) := by decide +kernel
theorem dX3_reckoned_9 : decode cX3_reckoned 9 = .ok (.lload_n 3, 1) := by decide +kernel
theorem dX3_reckoned_10 : decode cX3_reckoned 10 = .ok (.iload_n 2, 1) := by decide +kernel
theorem dX3_reckoned_11 : decode cX3_reckoned 11 = .ok (.i2l, 1) := by decide +kernel
theorem dX3_reckoned_12 : decode cX3_reckoned 12 = .ok (.ladd, 1) := by decide +kernel
theorem dX3_reckoned_13 : decode cX3_reckoned 13 = .ok (.lstore_n 3, 1) := by decide +kernel
theorem dX3_reckoned_14 : decode cX3_reckoned 14 = .ok (.goto 44, 3) := by decide +kernel
theorem dX3_reckoned_17 : decode cX3_reckoned 17 = .ok (.iload_n 1, 1) := by decide +kernel
theorem dX3_reckoned_18 : decode cX3_reckoned 18 = .ok (.bipush 45, 2) := by decide +kernel
theorem dX3_reckoned_20 : decode cX3_reckoned 20 = .ok (.if_icmp .ne 11, 3) := by decide +kernel
theorem dX3_reckoned_23 : decode cX3_reckoned 23 = .ok (.lload_n 3, 1) := by decide +kernel
theorem dX3_reckoned_24 : decode cX3_reckoned 24 = .ok (.iload_n 2, 1) := by decide +kernel
theorem dX3_reckoned_25 : decode cX3_reckoned 25 = .ok (.i2l, 1) := by decide +kernel
theorem dX3_reckoned_26 : decode cX3_reckoned 26 = .ok (.lsub, 1) := by decide +kernel
theorem dX3_reckoned_27 : decode cX3_reckoned 27 = .ok (.lstore_n 3, 1) := by decide +kernel
theorem dX3_reckoned_28 : decode cX3_reckoned 28 = .ok (.goto 30, 3) := by decide +kernel
theorem dX3_reckoned_31 : decode cX3_reckoned 31 = .ok (.iload_n 1, 1) := by decide +kernel
theorem dX3_reckoned_32 : decode cX3_reckoned 32 = .ok (.bipush 42, 2) := by decide +kernel
theorem dX3_reckoned_34 : decode cX3_reckoned 34 = .ok (.if_icmp .ne 11, 3) := by decide +kernel
theorem dX3_reckoned_37 : decode cX3_reckoned 37 = .ok (.lload_n 3, 1) := by decide +kernel
theorem dX3_reckoned_38 : decode cX3_reckoned 38 = .ok (.iload_n 2, 1) := by decide +kernel
theorem dX3_reckoned_39 : decode cX3_reckoned 39 = .ok (.i2l, 1) := by decide +kernel
theorem dX3_reckoned_40 : decode cX3_reckoned 40 = .ok (.lmul, 1) := by decide +kernel
theorem dX3_reckoned_41 : decode cX3_reckoned 41 = .ok (.lstore_n 3, 1) := by decide +kernel
theorem dX3_reckoned_42 : decode cX3_reckoned 42 = .ok (.goto 16, 3) := by decide +kernel
theorem dX3_reckoned_45 : decode cX3_reckoned 45 = .ok (.iload_n 2, 1) := by decide +kernel
theorem dX3_reckoned_46 : decode cX3_reckoned 46 = .ok (.ifCond .ne 7, 3) := by decide +kernel
theorem dX3_reckoned_49 : decode cX3_reckoned 49 = .ok (.lconst 0, 1) := by decide +kernel
theorem dX3_reckoned_50 : decode cX3_reckoned 50 = .ok (.goto 7, 3) := by decide +kernel
theorem dX3_reckoned_53 : decode cX3_reckoned 53 = .ok (.lload_n 3, 1) := by decide +kernel
theorem dX3_reckoned_54 : decode cX3_reckoned 54 = .ok (.iload_n 2, 1) := by decide +kernel
theorem dX3_reckoned_55 : decode cX3_reckoned 55 = .ok (.i2l, 1) := by decide +kernel
theorem dX3_reckoned_56 : decode cX3_reckoned 56 = .ok (.ldiv, 1) := by decide +kernel
theorem dX3_reckoned_57 : decode cX3_reckoned 57 = .ok (.lstore_n 3, 1) := by decide +kernel
theorem dX3_reckoned_58 : decode cX3_reckoned 58 = .ok (.ldc2_w 90, 3) := by decide +kernel
theorem dX3_reckoned_61 : decode cX3_reckoned 61 = .ok (.ldc2_w 92, 3) := by decide +kernel
theorem dX3_reckoned_64 : decode cX3_reckoned 64 = .ok (.lload_n 3, 1) := by decide +kernel
theorem dX3_reckoned_65 : decode cX3_reckoned 65 = .ok (.invokestatic 94, 3) := by decide +kernel
theorem dX3_reckoned_68 : decode cX3_reckoned 68 = .ok (.invokestatic 100, 3) := by decide +kernel
theorem dX3_reckoned_71 : decode cX3_reckoned 71 = .ok (.l2i, 1) := by decide +kernel
theorem dX3_reckoned_72 : decode cX3_reckoned 72 = .ok (.ireturn, 1) := by decide +kernel
theorem dX3_goesDeeper_0 : decode cX3_goesDeeper 0 = .ok (.iload_n 1, 1) := by decide +kernel
theorem dX3_goesDeeper_1 : decode cX3_goesDeeper 1 = .ok (.bipush 6, 2) := by decide +kernel
theorem dX3_goesDeeper_3 : decode cX3_goesDeeper 3 = .ok (.if_icmp .lt 9, 3) := by decide +kernel
theorem dX3_goesDeeper_6 : decode cX3_goesDeeper 6 = .ok (.aload_n 0, 1) := by decide +kernel
theorem dX3_goesDeeper_7 : decode cX3_goesDeeper 7 = .ok (.invokevirtual 66, 3) := by decide +kernel
theorem dX3_goesDeeper_10 : decode cX3_goesDeeper 10 = .ok (.iconst 0, 1) := by decide +kernel
theorem dX3_goesDeeper_11 : decode cX3_goesDeeper 11 = .ok (.ireturn, 1) := by decide +kernel
theorem dX3_goesDeeper_12 : decode cX3_goesDeeper 12 = .ok (.aload_n 0, 1) := by decide +kernel
theorem dX3_goesDeeper_13 : decode cX3_goesDeeper 13 = .ok (.dup, 1) := by decide +kernel
theorem dX3_goesDeeper_14 : decode cX3_goesDeeper 14 = .ok (.getfield 43, 3) := by decide +kernel
theorem dX3_goesDeeper_17 : decode cX3_goesDeeper 17 = .ok (.iconst 1, 1) := by decide +kernel
theorem dX3_goesDeeper_18 : decode cX3_goesDeeper 18 = .ok (.iadd, 1) := by decide +kernel
theorem dX3_goesDeeper_19 : decode cX3_goesDeeper 19 = .ok (.putfield 43, 3) := by decide +kernel
theorem dX3_goesDeeper_22 : decode cX3_goesDeeper 22 = .ok (.iconst 1, 1) := by decide +kernel
theorem dX3_goesDeeper_23 : decode cX3_goesDeeper 23 = .ok (.ireturn, 1) := by decide +kernel
theorem dX3_expect_0 : decode cX3_expect 0 = .ok (.aload_n 0, 1) := by decide +kernel
theorem dX3_expect_1 : decode cX3_expect 1 = .ok (.invokevirtual 50, 3) := by decide +kernel
theorem dX3_expect_4 : decode cX3_expect 4 = .ok (.iload_n 1, 1) := by decide +kernel
theorem dX3_expect_5 : decode cX3_expect 5 = .ok (.if_icmp .ne 16, 3) := by decide +kernel
theorem dX3_expect_8 : decode cX3_expect 8 = .ok (.aload_n 0, 1) := by decide +kernel
theorem dX3_expect_9 : decode cX3_expect 9 = .ok (.dup, 1) := by decide +kernel
theorem dX3_expect_10 : decode cX3_expect 10 = .ok (.getfield 43, 3) := by decide +kernel
theorem dX3_expect_13 : decode cX3_expect 13 = .ok (.iconst 1, 1) := by decide +kernel
theorem dX3_expect_14 : decode cX3_expect 14 = .ok (.iadd, 1) := by decide +kernel
theorem dX3_expect_15 : decode cX3_expect 15 = .ok (.putfield 43, 3) := by decide +kernel
theorem dX3_expect_18 : decode cX3_expect 18 = .ok (.goto 7, 3) := by decide +kernel
theorem dX3_expect_21 : decode cX3_expect 21 = .ok (.aload_n 0, 1) := by decide +kernel
theorem dX3_expect_22 : decode cX3_expect 22 = .ok (.invokevirtual 66, 3) := by decide +kernel
theorem dX3_expect_25 : decode cX3_expect 25 = .ok (.return_, 1) := by decide +kernel
theorem dX3_next_0 : decode cX3_next 0 = .ok (.aload_n 0, 1) := by decide +kernel
theorem dX3_next_1 : decode cX3_next 1 = .ok (.getfield 9, 3) := by decide +kernel
theorem dX3_next_4 : decode cX3_next 4 = .ok (.iconst (-1), 1) := by decide +kernel
theorem dX3_next_5 : decode cX3_next 5 = .ok (.if_icmp .eq 5, 3) := by decide +kernel
theorem dX3_next_8 : decode cX3_next 8 = .ok (.iconst (-1), 1) := by decide +kernel
theorem dX3_next_9 : decode cX3_next 9 = .ok (.ireturn, 1) := by decide +kernel
theorem dX3_next_10 : decode cX3_next 10 = .ok (.aload_n 0, 1) := by decide +kernel
theorem dX3_next_11 : decode cX3_next 11 = .ok (.getfield 43, 3) := by decide +kernel
theorem dX3_next_14 : decode cX3_next 14 = .ok (.ifCond .lt 63, 3) := by decide +kernel
theorem dX3_next_17 : decode cX3_next 17 = .ok (.aload_n 0, 1) := by decide +kernel
theorem dX3_next_18 : decode cX3_next 18 = .ok (.getfield 43, 3) := by decide +kernel
theorem dX3_next_21 : decode cX3_next 21 = .ok (.aload_n 0, 1) := by decide +kernel
theorem dX3_next_22 : decode cX3_next 22 = .ok (.getfield 32, 3) := by decide +kernel
theorem dX3_next_25 : decode cX3_next 25 = .ok (.if_icmp .ge 52, 3) := by decide +kernel
theorem dX3_next_28 : decode cX3_next 28 = .ok (.aload_n 0, 1) := by decide +kernel
theorem dX3_next_29 : decode cX3_next 29 = .ok (.getfield 43, 3) := by decide +kernel
theorem dX3_next_32 : decode cX3_next 32 = .ok (.aload_n 0, 1) := by decide +kernel
theorem dX3_next_33 : decode cX3_next 33 = .ok (.getfield 17, 3) := by decide +kernel
theorem dX3_next_36 : decode cX3_next 36 = .ok (.arraylength, 1) := by decide +kernel
theorem dX3_next_37 : decode cX3_next 37 = .ok (.if_icmp .ge 40, 3) := by decide +kernel
theorem dX3_next_40 : decode cX3_next 40 = .ok (.aload_n 0, 1) := by decide +kernel
theorem dX3_next_41 : decode cX3_next 41 = .ok (.getfield 17, 3) := by decide +kernel
theorem dX3_next_44 : decode cX3_next 44 = .ok (.aload_n 0, 1) := by decide +kernel
theorem dX3_next_45 : decode cX3_next 45 = .ok (.getfield 43, 3) := by decide +kernel
theorem dX3_next_48 : decode cX3_next 48 = .ok (.iaload, 1) := by decide +kernel
theorem dX3_next_49 : decode cX3_next 49 = .ok (.bipush 32, 2) := by decide +kernel
theorem dX3_next_51 : decode cX3_next 51 = .ok (.if_icmp .eq 13, 3) := by decide +kernel
theorem dX3_next_54 : decode cX3_next 54 = .ok (.aload_n 0, 1) := by decide +kernel
theorem dX3_next_55 : decode cX3_next 55 = .ok (.getfield 17, 3) := by decide +kernel
theorem dX3_next_58 : decode cX3_next 58 = .ok (.aload_n 0, 1) := by decide +kernel
theorem dX3_next_59 : decode cX3_next 59 = .ok (.getfield 43, 3) := by decide +kernel
theorem dX3_next_62 : decode cX3_next 62 = .ok (.iaload, 1) := by decide +kernel
theorem dX3_next_63 : decode cX3_next 63 = .ok (.ireturn, 1) := by decide +kernel
theorem dX3_next_64 : decode cX3_next 64 = .ok (.aload_n 0, 1) := by decide +kernel
theorem dX3_next_65 : decode cX3_next 65 = .ok (.dup, 1) := by decide +kernel
theorem dX3_next_66 : decode cX3_next 66 = .ok (.getfield 43, 3) := by decide +kernel
theorem dX3_next_69 : decode cX3_next 69 = .ok (.iconst 1, 1) := by decide +kernel
theorem dX3_next_70 : decode cX3_next 70 = .ok (.iadd, 1) := by decide +kernel
theorem dX3_next_71 : decode cX3_next 71 = .ok (.putfield 43, 3) := by decide +kernel
theorem dX3_next_74 : decode cX3_next 74 = .ok (.goto (-64), 3) := by decide +kernel
theorem dX3_next_77 : decode cX3_next 77 = .ok (.iconst (-1), 1) := by decide +kernel
theorem dX3_next_78 : decode cX3_next 78 = .ok (.ireturn, 1) := by decide +kernel
theorem dX3_stop_0 : decode cX3_stop 0 = .ok (.aload_n 0, 1) := by decide +kernel
theorem dX3_stop_1 : decode cX3_stop 1 = .ok (.getfield 9, 3) := by decide +kernel
theorem dX3_stop_4 : decode cX3_stop 4 = .ok (.iconst (-1), 1) := by decide +kernel
theorem dX3_stop_5 : decode cX3_stop 5 = .ok (.if_icmp .ne 11, 3) := by decide +kernel
theorem dX3_stop_8 : decode cX3_stop 8 = .ok (.aload_n 0, 1) := by decide +kernel
theorem dX3_stop_9 : decode cX3_stop 9 = .ok (.aload_n 0, 1) := by decide +kernel
theorem dX3_stop_10 : decode cX3_stop 10 = .ok (.getfield 43, 3) := by decide +kernel
theorem dX3_stop_13 : decode cX3_stop 13 = .ok (.putfield 9, 3) := by decide +kernel
theorem dX3_stop_16 : decode cX3_stop 16 = .ok (.return_, 1) := by decide +kernel
theorem dX4_init_0 : decode cX4_init 0 = .ok (.aload_n 0, 1) := by decide +kernel
theorem dX4_init_1 : decode cX4_init 1 = .ok (.invokespecial 3, 3) := by decide +kernel
theorem dX4_init_4 : decode cX4_init 4 = .ok (.aload_n 0, 1) := by decide +kernel
theorem dX4_init_5 : decode cX4_init 5 = .ok (.iconst (-1), 1) := by decide +kernel
theorem dX4_init_6 : decode cX4_init 6 = .ok (.putfield 9, 3) := by decide +kernel
theorem dX4_init_9 : decode cX4_init 9 = .ok (.aload_n 0, 1) := by decide +kernel
theorem dX4_init_10 : decode cX4_init 10 = .ok (.sipush 480, 3) := by decide +kernel
theorem dX4_init_13 : decode cX4_init 13 = .ok (.newarray .int, 2) := by decide +kernel
theorem dX4_init_15 : decode cX4_init 15 = .ok (.putfield 17, 3) := by decide +kernel
theorem dX4_init_18 : decode cX4_init 18 = .ok (.aload_n 0, 1) := by decide +kernel
theorem dX4_init_19 : decode cX4_init 19 = .ok (.iconst 4, 1) := by decide +kernel
theorem dX4_init_20 : decode cX4_init 20 = .ok (.newarray .int, 2) := by decide +kernel
theorem dX4_init_22 : decode cX4_init 22 = .ok (.putfield 21, 3) := by decide +kernel
theorem dX4_init_25 : decode cX4_init 25 = .ok (.aload_n 0, 1) := by decide +kernel
theorem dX4_init_26 : decode cX4_init 26 = .ok (.new 24, 3) := by decide +kernel
theorem dX4_init_29 : decode cX4_init 29 = .ok (.dup, 1) := by decide +kernel
theorem dX4_init_30 : decode cX4_init 30 = .ok (.invokespecial 26, 3) := by decide +kernel
theorem dX4_init_33 : decode cX4_init 33 = .ok (.putfield 27, 3) := by decide +kernel
theorem dX4_init_36 : decode cX4_init 36 = .ok (.return_, 1) := by decide +kernel
theorem dX4_isLaw_0 : decode cX4_isLaw 0 = .ok (.iload_n 1, 1) := by decide +kernel
theorem dX4_isLaw_1 : decode cX4_isLaw 1 = .ok (.iconst 0, 1) := by decide +kernel
theorem dX4_isLaw_2 : decode cX4_isLaw 2 = .ok (.aload_n 0, 1) := by decide +kernel
theorem dX4_isLaw_3 : decode cX4_isLaw 3 = .ok (.getfield 31, 3) := by decide +kernel
theorem dX4_isLaw_6 : decode cX4_isLaw 6 = .ok (.iconst 1, 1) := by decide +kernel
theorem dX4_isLaw_7 : decode cX4_isLaw 7 = .ok (.isub, 1) := by decide +kernel
theorem dX4_isLaw_8 : decode cX4_isLaw 8 = .ok (.invokestatic 34, 3) := by decide +kernel
theorem dX4_isLaw_11 : decode cX4_isLaw 11 = .ok (.ireturn, 1) := by decide +kernel
theorem dX4_faultIn_0 : decode cX4_faultIn 0 = .ok (.aload_n 0, 1) := by decide +kernel
theorem dX4_faultIn_1 : decode cX4_faultIn 1 = .ok (.getfield 27, 3) := by decide +kernel
theorem dX4_faultIn_4 : decode cX4_faultIn 4 = .ok (.aload_n 1, 1) := by decide +kernel
theorem dX4_faultIn_5 : decode cX4_faultIn 5 = .ok (.getfield 40, 3) := by decide +kernel
theorem dX4_faultIn_8 : decode cX4_faultIn 8 = .ok (.iconst 0, 1) := by decide +kernel
theorem dX4_faultIn_9 : decode cX4_faultIn 9 = .ok (.aload_n 1, 1) := by decide +kernel
theorem dX4_faultIn_10 : decode cX4_faultIn 10 = .ok (.getfield 43, 3) := by decide +kernel
theorem dX4_faultIn_13 : decode cX4_faultIn 13 = .ok (.invokevirtual 46, 3) := by decide +kernel
theorem dX4_faultIn_16 : decode cX4_faultIn 16 = .ok (.aload_n 0, 1) := by decide +kernel
theorem dX4_faultIn_17 : decode cX4_faultIn 17 = .ok (.getfield 27, 3) := by decide +kernel
theorem dX4_faultIn_20 : decode cX4_faultIn 20 = .ok (.invokevirtual 50, 3) := by decide +kernel
theorem dX4_faultIn_23 : decode cX4_faultIn 23 = .ok (.pop, 1) := by decide +kernel
theorem dX4_faultIn_24 : decode cX4_faultIn 24 = .ok (.aload_n 0, 1) := by decide +kernel
theorem dX4_faultIn_25 : decode cX4_faultIn 25 = .ok (.getfield 27, 3) := by decide +kernel
theorem dX4_faultIn_28 : decode cX4_faultIn 28 = .ok (.getfield 54, 3) := by decide +kernel
theorem dX4_faultIn_31 : decode cX4_faultIn 31 = .ok (.ireturn, 1) := by decide +kernel
theorem dX4_add_0 : decode cX4_add 0 = .ok (.aload_n 0, 1) := by decide +kernel
theorem dX4_add_1 : decode cX4_add 1 = .ok (.getfield 31, 3) := by decide +kernel
theorem dX4_add_4 : decode cX4_add 4 = .ok (.iconst 4, 1) := by decide +kernel
theorem dX4_add_5 : decode cX4_add 5 = .ok (.if_icmp .ge 12, 3) := by decide +kernel
theorem dX4_add_8 : decode cX4_add 8 = .ok (.aload_n 0, 1) := by decide +kernel
theorem dX4_add_9 : decode cX4_add 9 = .ok (.aload_n 1, 1) := by decide +kernel
theorem dX4_add_10 : decode cX4_add 10 = .ok (.invokevirtual 57, 3) := by decide +kernel
theorem dX4_add_13 : decode cX4_add 13 = .ok (.iconst (-1), 1) := by decide +kernel
theorem dX4_add_14 : decode cX4_add 14 = .ok (.if_icmp .eq 5, 3) := by decide +kernel
theorem dX4_add_17 : decode cX4_add 17 = .ok (.iconst (-1), 1) := by decide +kernel
theorem dX4_add_18 : decode cX4_add 18 = .ok (.ireturn, 1) := by decide +kernel
theorem dX4_add_19 : decode cX4_add 19 = .ok (.aload_n 1, 1) := by decide +kernel
theorem dX4_add_20 : decode cX4_add 20 = .ok (.aload_n 0, 1) := by decide +kernel
theorem dX4_add_21 : decode cX4_add 21 = .ok (.getfield 17, 3) := by decide +kernel
theorem dX4_add_24 : decode cX4_add 24 = .ok (.aload_n 0, 1) := by decide +kernel
theorem dX4_add_25 : decode cX4_add 25 = .ok (.getfield 31, 3) := by decide +kernel
theorem dX4_add_28 : decode cX4_add 28 = .ok (.bipush 120, 2) := by decide +kernel
theorem dX4_add_30 : decode cX4_add 30 = .ok (.imul, 1) := by decide +kernel
theorem dX4_add_31 : decode cX4_add 31 = .ok (.invokevirtual 61, 3) := by decide +kernel
theorem dX4_add_34 : decode cX4_add 34 = .ok (.aload_n 0, 1) := by decide +kernel
theorem dX4_add_35 : decode cX4_add 35 = .ok (.getfield 21, 3) := by decide +kernel
theorem dX4_add_38 : decode cX4_add 38 = .ok (.aload_n 0, 1) := by decide +kernel
theorem dX4_add_39 : decode cX4_add 39 = .ok (.getfield 31, 3) := by decide +kernel
theorem dX4_add_42 : decode cX4_add 42 = .ok (.aload_n 1, 1) := by decide +kernel
theorem dX4_add_43 : decode cX4_add 43 = .ok (.getfield 43, 3) := by decide +kernel
theorem dX4_add_46 : decode cX4_add 46 = .ok (.invokestatic 65, 3) := by decide +kernel
theorem dX4_add_49 : decode cX4_add 49 = .ok (.aload_n 1, 1) := by decide +kernel
theorem dX4_add_50 : decode cX4_add 50 = .ok (.iconst 0, 1) := by decide +kernel
theorem dX4_add_51 : decode cX4_add 51 = .ok (.putfield 43, 3) := by decide +kernel
theorem dX4_add_54 : decode cX4_add 54 = .ok (.aload_n 0, 1) := by decide +kernel
theorem dX4_add_55 : decode cX4_add 55 = .ok (.dup, 1) := by decide +kernel
theorem dX4_add_56 : decode cX4_add 56 = .ok (.getfield 31, 3) := by decide +kernel
theorem dX4_add_59 : decode cX4_add 59 = .ok (.dup_x1, 1) := by decide +kernel
theorem dX4_add_60 : decode cX4_add 60 = .ok (.iconst 1, 1) := by decide +kernel
theorem dX4_add_61 : decode cX4_add 61 = .ok (.iadd, 1) := by decide +kernel
theorem dX4_add_62 : decode cX4_add 62 = .ok (.putfield 31, 3) := by decide +kernel
theorem dX4_add_65 : decode cX4_add 65 = .ok (.ireturn, 1) := by decide +kernel
theorem dX4_votersBy_0 : decode cX4_votersBy 0 = .ok (.aload_n 0, 1) := by decide +kernel
theorem dX4_votersBy_1 : decode cX4_votersBy 1 = .ok (.iload_n 1, 1) := by decide +kernel
theorem dX4_votersBy_2 : decode cX4_votersBy 2 = .ok (.invokevirtual 68, 3) := by decide +kernel
theorem dX4_votersBy_5 : decode cX4_votersBy 5 = .ok (.ifCond .ne 9, 3) := by decide +kernel
theorem dX4_votersBy_8 : decode cX4_votersBy 8 = .ok (.aload_n 2, 1) := by decide +kernel
theorem dX4_votersBy_9 : decode cX4_votersBy 9 = .ok (.iload_n 3, 1) := by decide +kernel
theorem dX4_votersBy_10 : decode cX4_votersBy 10 = .ok (.invokestatic 72, 3) := by decide +kernel
theorem dX4_votersBy_13 : decode cX4_votersBy 13 = .ok (.ireturn, 1) := by decide +kernel
theorem dX4_votersBy_14 : decode cX4_votersBy 14 = .ok (.aload_n 0, 1) := by decide +kernel
theorem dX4_votersBy_15 : decode cX4_votersBy 15 = .ok (.getfield 27, 3) := by decide +kernel
theorem dX4_votersBy_18 : decode cX4_votersBy 18 = .ok (.aload_n 0, 1) := by decide +kernel
theorem dX4_votersBy_19 : decode cX4_votersBy 19 = .ok (.getfield 17, 3) := by decide +kernel
theorem dX4_votersBy_22 : decode cX4_votersBy 22 = .ok (.iload_n 1, 1) := by decide +kernel
theorem dX4_votersBy_23 : decode cX4_votersBy 23 = .ok (.bipush 120, 2) := by decide +kernel
theorem dX4_votersBy_25 : decode cX4_votersBy 25 = .ok (.imul, 1) := by decide +kernel
theorem dX4_votersBy_26 : decode cX4_votersBy 26 = .ok (.aload_n 0, 1) := by decide +kernel
theorem dX4_votersBy_27 : decode cX4_votersBy 27 = .ok (.getfield 21, 3) := by decide +kernel
theorem dX4_votersBy_30 : decode cX4_votersBy 30 = .ok (.iload_n 1, 1) := by decide +kernel
theorem dX4_votersBy_31 : decode cX4_votersBy 31 = .ok (.invokestatic 72, 3) := by decide +kernel
theorem dX4_votersBy_34 : decode cX4_votersBy 34 = .ok (.invokevirtual 46, 3) := by decide +kernel
theorem dX4_votersBy_37 : decode cX4_votersBy 37 = .ok (.aload_n 0, 1) := by decide +kernel
theorem dX4_votersBy_38 : decode cX4_votersBy 38 = .ok (.getfield 27, 3) := by decide +kernel
theorem dX4_votersBy_41 : decode cX4_votersBy 41 = .ok (.aload_n 2, 1) := by decide +kernel
theorem dX4_votersBy_42 : decode cX4_votersBy 42 = .ok (.iload_n 3, 1) := by decide +kernel
theorem dX4_votersBy_43 : decode cX4_votersBy 43 = .ok (.invokevirtual 76, 3) := by decide +kernel
theorem dX4_votersBy_46 : decode cX4_votersBy 46 = .ok (.aload_n 0, 1) := by decide +kernel
theorem dX4_votersBy_47 : decode cX4_votersBy 47 = .ok (.getfield 27, 3) := by decide +kernel
theorem dX4_votersBy_50 : decode cX4_votersBy 50 = .ok (.invokevirtual 50, 3) := by decide +kernel
theorem dX4_votersBy_53 : decode cX4_votersBy 53 = .ok (.iconst 0, 1) := by decide +kernel
theorem dX4_votersBy_54 : decode cX4_votersBy 54 = .ok (.sipush 999, 3) := by decide +kernel
theorem dX4_votersBy_57 : decode cX4_votersBy 57 = .ok (.invokestatic 79, 3) := by decide +kernel
theorem dX4_votersBy_60 : decode cX4_votersBy 60 = .ok (.ireturn, 1) := by decide +kernel
theorem dX4_agreeing_0 : decode cX4_agreeing 0 = .ok (.iconst 0, 1) := by decide +kernel
theorem dX4_agreeing_1 : decode cX4_agreeing 1 = .ok (.istore_n 3, 1) := by decide +kernel
theorem dX4_agreeing_2 : decode cX4_agreeing 2 = .ok (.iconst 0, 1) := by decide +kernel
theorem dX4_agreeing_3 : decode cX4_agreeing 3 = .ok (.istore 4, 2) := by decide +kernel
theorem dX4_agreeing_5 : decode cX4_agreeing 5 = .ok (.iload 4, 2) := by decide +kernel
theorem dX4_agreeing_7 : decode cX4_agreeing 7 = .ok (.aload_n 0, 1) := by decide +kernel
theorem dX4_agreeing_8 : decode cX4_agreeing 8 = .ok (.getfield 31, 3) := by decide +kernel
theorem dX4_agreeing_11 : decode cX4_agreeing 11 = .ok (.if_icmp .ge 35, 3) := by decide +kernel
theorem dX4_agreeing_14 : decode cX4_agreeing 14 = .ok (.aload_n 0, 1) := by decide +kernel
theorem dX4_agreeing_15 : decode cX4_agreeing 15 = .ok (.iload 4, 2) := by decide +kernel
theorem dX4_agreeing_17 : decode cX4_agreeing 17 = .ok (.aload_n 1, 1) := by decide +kernel
theorem dX4_agreeing_18 : decode cX4_agreeing 18 = .ok (.iload_n 2, 1) := by decide +kernel
theorem dX4_agreeing_19 : decode cX4_agreeing 19 = .ok (.invokevirtual 83, 3) := by decide +kernel
theorem dX4_agreeing_22 : decode cX4_agreeing 22 = .ok (.aload_n 1, 1) := by decide +kernel
theorem dX4_agreeing_23 : decode cX4_agreeing 23 = .ok (.iload_n 2, 1) := by decide +kernel
theorem dX4_agreeing_24 : decode cX4_agreeing 24 = .ok (.iconst 4, 1) := by decide +kernel
theorem dX4_agreeing_25 : decode cX4_agreeing 25 = .ok (.iadd, 1) := by decide +kernel
theorem dX4_agreeing_26 : decode cX4_agreeing 26 = .ok (.invokestatic 72, 3) := by decide +kernel
theorem dX4_agreeing_29 : decode cX4_agreeing 29 = .ok (.if_icmp .ne 11, 3) := by decide +kernel
theorem dX4_agreeing_32 : decode cX4_agreeing 32 = .ok (.iload_n 3, 1) := by decide +kernel
theorem dX4_agreeing_33 : decode cX4_agreeing 33 = .ok (.iload 4, 2) := by decide +kernel
theorem dX4_agreeing_35 : decode cX4_agreeing 35 = .ok (.invokestatic 89, 3) := by decide +kernel
theorem dX4_agreeing_38 : decode cX4_agreeing 38 = .ok (.ior, 1) := by decide +kernel
theorem dX4_agreeing_39 : decode cX4_agreeing 39 = .ok (.istore_n 3, 1) := by decide +kernel
theorem dX4_agreeing_40 : decode cX4_agreeing 40 = .ok (.iinc 4 1, 3) := by decide +kernel
theorem dX4_agreeing_43 : decode cX4_agreeing 43 = .ok (.goto (-38), 3) := by decide +kernel
theorem dX4_agreeing_46 : decode cX4_agreeing 46 = .ok (.iload_n 3, 1) := by decide +kernel
theorem dX4_agreeing_47 : decode cX4_agreeing 47 = .ok (.ireturn, 1) := by decide +kernel
theorem dX5_init_0 : decode cX5_init 0 = .ok (.aload_n 0, 1) := by decide +kernel
theorem dX5_init_1 : decode cX5_init 1 = .ok (.invokespecial 3, 3) := by decide +kernel
theorem dX5_init_4 : decode cX5_init 4 = .ok (.aload_n 0, 1) := by decide +kernel
theorem dX5_init_5 : decode cX5_init 5 = .ok (.bipush 30, 2) := by decide +kernel
theorem dX5_init_7 : decode cX5_init 7 = .ok (.newarray .int, 2) := by decide +kernel
theorem dX5_init_9 : decode cX5_init 9 = .ok (.putfield 11, 3) := by decide +kernel
theorem dX5_init_12 : decode cX5_init 12 = .ok (.aload_n 0, 1) := by decide +kernel
theorem dX5_init_13 : decode cX5_init 13 = .ok (.bipush 6, 2) := by decide +kernel
theorem dX5_init_15 : decode cX5_init 15 = .ok (.newarray .int, 2) := by decide +kernel
theorem dX5_init_17 : decode cX5_init 17 = .ok (.putfield 15, 3) := by decide +kernel
theorem dX5_init_20 : decode cX5_init 20 = .ok (.aload_n 0, 1) := by decide +kernel
theorem dX5_init_21 : decode cX5_init 21 = .ok (.bipush 6, 2) := by decide +kernel
theorem dX5_init_23 : decode cX5_init 23 = .ok (.newarray .int, 2) := by decide +kernel
theorem dX5_init_25 : decode cX5_init 25 = .ok (.putfield 18, 3) := by decide +kernel
theorem dX5_init_28 : decode cX5_init 28 = .ok (.aload_n 0, 1) := by decide +kernel
theorem dX5_init_29 : decode cX5_init 29 = .ok (.bipush 6, 2) := by decide +kernel
theorem dX5_init_31 : decode cX5_init 31 = .ok (.newarray .int, 2) := by decide +kernel
theorem dX5_init_33 : decode cX5_init 33 = .ok (.putfield 21, 3) := by decide +kernel
theorem dX5_init_36 : decode cX5_init 36 = .ok (.aload_n 0, 1) := by decide +kernel
theorem dX5_init_37 : decode cX5_init 37 = .ok (.bipush 96, 2) := by decide +kernel
theorem dX5_init_39 : decode cX5_init 39 = .ok (.newarray .int, 2) := by decide +kernel
theorem dX5_init_41 : decode cX5_init 41 = .ok (.putfield 26, 3) := by decide +kernel
theorem dX5_init_44 : decode cX5_init 44 = .ok (.aload_n 0, 1) := by decide +kernel
theorem dX5_init_45 : decode cX5_init 45 = .ok (.bipush 6, 2) := by decide +kernel
theorem dX5_init_47 : decode cX5_init 47 = .ok (.newarray .int, 2) := by decide +kernel
theorem dX5_init_49 : decode cX5_init 49 = .ok (.putfield 29, 3) := by decide +kernel
theorem dX5_init_52 : decode cX5_init 52 = .ok (.aload_n 0, 1) := by decide +kernel
theorem dX5_init_53 : decode cX5_init 53 = .ok (.bipush 48, 2) := by decide +kernel
theorem dX5_init_55 : decode cX5_init 55 = .ok (.newarray .int, 2) := by decide +kernel
theorem dX5_init_57 : decode cX5_init 57 = .ok (.putfield 32, 3) := by decide +kernel
theorem dX5_init_60 : decode cX5_init 60 = .ok (.aload_n 0, 1) := by decide +kernel
theorem dX5_init_61 : decode cX5_init 61 = .ok (.bipush 48, 2) := by decide +kernel
theorem dX5_init_63 : decode cX5_init 63 = .ok (.newarray .int, 2) := by decide +kernel
theorem dX5_init_65 : decode cX5_init 65 = .ok (.putfield 35, 3) := by decide +kernel
theorem dX5_init_68 : decode cX5_init 68 = .ok (.aload_n 0, 1) := by decide +kernel
theorem dX5_init_69 : decode cX5_init 69 = .ok (.bipush 48, 2) := by decide +kernel
theorem dX5_init_71 : decode cX5_init 71 = .ok (.newarray .int, 2) := by decide +kernel
theorem dX5_init_73 : decode cX5_init 73 = .ok (.putfield 38, 3) := by decide +kernel
theorem dX5_init_76 : decode cX5_init 76 = .ok (.aload_n 0, 1) := by decide +kernel
theorem dX5_init_77 : decode cX5_init 77 = .ok (.bipush 96, 2) := by decide +kernel
theorem dX5_init_79 : decode cX5_init 79 = .ok (.newarray .int, 2) := by decide +kernel
theorem dX5_init_81 : decode cX5_init 81 = .ok (.putfield 41, 3) := by decide +kernel
theorem dX5_init_84 : decode cX5_init 84 = .ok (.aload_n 0, 1) := by decide +kernel
theorem dX5_init_85 : decode cX5_init 85 = .ok (.sipush 768, 3) := by decide +kernel
theorem dX5_init_88 : decode cX5_init 88 = .ok (.newarray .int, 2) := by decide +kernel
theorem dX5_init_90 : decode cX5_init 90 = .ok (.putfield 44, 3) := by decide +kernel
theorem dX5_init_93 : decode cX5_init 93 = .ok (.aload_n 0, 1) := by decide +kernel
theorem dX5_init_94 : decode cX5_init 94 = .ok (.aload_n 1, 1) := by decide +kernel
theorem dX5_init_95 : decode cX5_init 95 = .ok (.putfield 47, 3) := by decide +kernel
theorem dX5_init_98 : decode cX5_init 98 = .ok (.return_, 1) := by decide +kernel
theorem dX5_isMachine_0 : decode cX5_isMachine 0 = .ok (.iload_n 1, 1) := by decide +kernel
theorem dX5_isMachine_1 : decode cX5_isMachine 1 = .ok (.iconst 0, 1) := by decide +kernel
theorem dX5_isMachine_2 : decode cX5_isMachine 2 = .ok (.aload_n 0, 1) := by decide +kernel
theorem dX5_isMachine_3 : decode cX5_isMachine 3 = .ok (.getfield 51, 3) := by decide +kernel
theorem dX5_isMachine_6 : decode cX5_isMachine 6 = .ok (.iconst 1, 1) := by decide +kernel
theorem dX5_isMachine_7 : decode cX5_isMachine 7 = .ok (.isub, 1) := by decide +kernel
theorem dX5_isMachine_8 : decode cX5_isMachine 8 = .ok (.invokestatic 55, 3) := by decide +kernel
theorem dX5_isMachine_11 : decode cX5_isMachine 11 = .ok (.ireturn, 1) := by decide +kernel
theorem dX5_isNumber_0 : decode cX5_isNumber 0 = .ok (.iload_n 0, 1) := by decide +kernel
theorem dX5_isNumber_1 : decode cX5_isNumber 1 = .ok (.iconst 0, 1) := by decide +kernel
theorem dX5_isNumber_2 : decode cX5_isNumber 2 = .ok (.sipush 999, 3) := by decide +kernel
theorem dX5_isNumber_5 : decode cX5_isNumber 5 = .ok (.invokestatic 55, 3) := by decide +kernel
theorem dX5_isNumber_8 : decode cX5_isNumber 8 = .ok (.ireturn, 1) := by decide +kernel
theorem dX5_add_0 : decode cX5_add 0 = .ok (.iload_n 1, 1) := by decide +kernel
theorem dX5_add_1 : decode cX5_add 1 = .ok (.invokestatic 61, 3) := by decide +kernel
theorem dX5_add_4 : decode cX5_add 4 = .ok (.ifCond .eq 37, 3) := by decide +kernel
theorem dX5_add_7 : decode cX5_add 7 = .ok (.iload_n 2, 1) := by decide +kernel
theorem dX5_add_8 : decode cX5_add 8 = .ok (.invokestatic 61, 3) := by decide +kernel
theorem dX5_add_11 : decode cX5_add 11 = .ok (.ifCond .eq 30, 3) := by decide +kernel
theorem dX5_add_14 : decode cX5_add 14 = .ok (.iload_n 3, 1) := by decide +kernel
theorem dX5_add_15 : decode cX5_add 15 = .ok (.invokestatic 61, 3) := by decide +kernel
theorem dX5_add_18 : decode cX5_add 18 = .ok (.ifCond .eq 23, 3) := by decide +kernel
theorem dX5_add_21 : decode cX5_add 21 = .ok (.iload 4, 2) := by decide +kernel
theorem dX5_add_23 : decode cX5_add 23 = .ok (.invokestatic 61, 3) := by decide +kernel
theorem dX5_add_26 : decode cX5_add 26 = .ok (.ifCond .eq 15, 3) := by decide +kernel
theorem dX5_add_29 : decode cX5_add 29 = .ok (.iload 5, 2) := by decide +kernel
theorem dX5_add_31 : decode cX5_add 31 = .ok (.invokestatic 61, 3) := by decide +kernel
theorem dX5_add_34 : decode cX5_add 34 = .ok (.ifCond .eq 7, 3) := by decide +kernel
theorem dX5_add_37 : decode cX5_add 37 = .ok (.iconst 1, 1) := by decide +kernel
theorem dX5_add_38 : decode cX5_add 38 = .ok (.goto 4, 3) := by decide +kernel
theorem dX5_add_41 : decode cX5_add 41 = .ok (.iconst 0, 1) := by decide +kernel
theorem dX5_add_42 : decode cX5_add 42 = .ok (.istore 6, 2) := by decide +kernel
theorem dX5_add_44 : decode cX5_add 44 = .ok (.iload 6, 2) := by decide +kernel
theorem dX5_add_46 : decode cX5_add 46 = .ok (.ifCond .eq 12, 3) := by decide +kernel
theorem dX5_add_49 : decode cX5_add 49 = .ok (.aload_n 0, 1) := by decide +kernel
theorem dX5_add_50 : decode cX5_add 50 = .ok (.getfield 51, 3) := by decide +kernel
theorem dX5_add_53 : decode cX5_add 53 = .ok (.bipush 6, 2) := by decide +kernel
theorem dX5_add_55 : decode cX5_add 55 = .ok (.if_icmp .lt 5, 3) := by decide +kernel
theorem dX5_add_58 : decode cX5_add 58 = .ok (.iconst (-1), 1) := by decide +kernel
theorem dX5_add_59 : decode cX5_add 59 = .ok (.ireturn, 1) := by decide +kernel
theorem dX5_add_60 : decode cX5_add 60 = .ok (.aload_n 0, 1) := by decide +kernel
theorem dX5_add_61 : decode cX5_add 61 = .ok (.getfield 51, 3) := by decide +kernel
theorem dX5_add_64 : decode cX5_add 64 = .ok (.iconst 5, 1) := by decide +kernel
theorem dX5_add_65 : decode cX5_add 65 = .ok (.imul, 1) := by decide +kernel
theorem dX5_add_66 : decode cX5_add 66 = .ok (.istore 7, 2) := by decide +kernel
theorem dX5_add_68 : decode cX5_add 68 = .ok (.aload_n 0, 1) := by decide +kernel
theorem dX5_add_69 : decode cX5_add 69 = .ok (.getfield 11, 3) := by decide +kernel
theorem dX5_add_72 : decode cX5_add 72 = .ok (.iload 7, 2) := by decide +kernel
theorem dX5_add_74 : decode cX5_add 74 = .ok (.iload_n 1, 1) := by decide +kernel
theorem dX5_add_75 : decode cX5_add 75 = .ok (.invokestatic 65, 3) := by decide +kernel
theorem dX5_add_78 : decode cX5_add 78 = .ok (.aload_n 0, 1) := by decide +kernel
theorem dX5_add_79 : decode cX5_add 79 = .ok (.getfield 11, 3) := by decide +kernel
theorem dX5_add_82 : decode cX5_add 82 = .ok (.iload 7, 2) := by decide +kernel
theorem dX5_add_84 : decode cX5_add 84 = .ok (.iconst 1, 1) := by decide +kernel
theorem dX5_add_85 : decode cX5_add 85 = .ok (.iadd, 1) := by decide +kernel
theorem dX5_add_86 : decode cX5_add 86 = .ok (.iload_n 2, 1) := by decide +kernel
theorem dX5_add_87 : decode cX5_add 87 = .ok (.invokestatic 65, 3) := by decide +kernel
theorem dX5_add_90 : decode cX5_add 90 = .ok (.aload_n 0, 1) := by decide +kernel
theorem dX5_add_91 : decode cX5_add 91 = .ok (.getfield 11, 3) := by decide +kernel
theorem dX5_add_94 : decode cX5_add 94 = .ok (.iload 7, 2) := by decide +kernel
theorem dX5_add_96 : decode cX5_add 96 = .ok (.iconst 2, 1) := by decide +kernel
theorem dX5_add_97 : decode cX5_add 97 = .ok (.iadd, 1) := by decide +kernel
theorem dX5_add_98 : decode cX5_add 98 = .ok (.iload_n 3, 1) := by decide +kernel
theorem dX5_add_99 : decode cX5_add 99 = .ok (.invokestatic 65, 3) := by decide +kernel
theorem dX5_add_102 : decode cX5_add 102 = .ok (.aload_n 0, 1) := by decide +kernel
theorem dX5_add_103 : decode cX5_add 103 = .ok (.getfield 11, 3) := by decide +kernel
theorem dX5_add_106 : decode cX5_add 106 = .ok (.iload 7, 2) := by decide +kernel
theorem dX5_add_108 : decode cX5_add 108 = .ok (.iconst 3, 1) := by decide +kernel
theorem dX5_add_109 : decode cX5_add 109 = .ok (.iadd, 1) := by decide +kernel
theorem dX5_add_110 : decode cX5_add 110 = .ok (.iload 4, 2) := by decide +kernel
theorem dX5_add_112 : decode cX5_add 112 = .ok (.invokestatic 65, 3) := by decide +kernel
theorem dX5_add_115 : decode cX5_add 115 = .ok (.aload_n 0, 1) := by decide +kernel
theorem dX5_add_116 : decode cX5_add 116 = .ok (.getfield 11, 3) := by decide +kernel
theorem dX5_add_119 : decode cX5_add 119 = .ok (.iload 7, 2) := by decide +kernel
theorem dX5_add_121 : decode cX5_add 121 = .ok (.iconst 4, 1) := by decide +kernel
theorem dX5_add_122 : decode cX5_add 122 = .ok (.iadd, 1) := by decide +kernel
theorem dX5_add_123 : decode cX5_add 123 = .ok (.iload 5, 2) := by decide +kernel
theorem dX5_add_125 : decode cX5_add 125 = .ok (.invokestatic 65, 3) := by decide +kernel
theorem dX5_add_128 : decode cX5_add 128 = .ok (.aload_n 0, 1) := by decide +kernel
theorem dX5_add_129 : decode cX5_add 129 = .ok (.getfield 18, 3) := by decide +kernel
theorem dX5_add_132 : decode cX5_add 132 = .ok (.aload_n 0, 1) := by decide +kernel
theorem dX5_add_133 : decode cX5_add 133 = .ok (.getfield 51, 3) := by decide +kernel
theorem dX5_add_136 : decode cX5_add 136 = .ok (.iconst (-1), 1) := by decide +kernel
theorem dX5_add_137 : decode cX5_add 137 = .ok (.invokestatic 65, 3) := by decide +kernel
theorem dX5_add_140 : decode cX5_add 140 = .ok (.aload_n 0, 1) := by decide +kernel
theorem dX5_add_141 : decode cX5_add 141 = .ok (.getfield 21, 3) := by decide +kernel
theorem dX5_add_144 : decode cX5_add 144 = .ok (.aload_n 0, 1) := by decide +kernel
theorem dX5_add_145 : decode cX5_add 145 = .ok (.getfield 51, 3) := by decide +kernel
theorem dX5_add_148 : decode cX5_add 148 = .ok (.iconst 1, 1) := by decide +kernel
theorem dX5_add_149 : decode cX5_add 149 = .ok (.invokestatic 65, 3) := by decide +kernel
theorem dX5_add_152 : decode cX5_add 152 = .ok (.aload_n 0, 1) := by decide +kernel
theorem dX5_add_153 : decode cX5_add 153 = .ok (.dup, 1) := by decide +kernel
theorem dX5_add_154 : decode cX5_add 154 = .ok (.getfield 51, 3) := by decide +kernel
theorem dX5_add_157 : decode cX5_add 157 = .ok (.dup_x1, 1) := by decide +kernel
theorem dX5_add_158 : decode cX5_add 158 = .ok (.iconst 1, 1) := by decide +kernel
theorem dX5_add_159 : decode cX5_add 159 = .ok (.iadd, 1) := by decide +kernel
theorem dX5_add_160 : decode cX5_add 160 = .ok (.putfield 51, 3) := by decide +kernel
theorem dX5_add_163 : decode cX5_add 163 = .ok (.ireturn, 1) := by decide +kernel
theorem dX5_isCounter_0 : decode cX5_isCounter 0 = .ok (.aload_n 0, 1) := by decide +kernel
theorem dX5_isCounter_1 : decode cX5_isCounter 1 = .ok (.iload_n 1, 1) := by decide +kernel
theorem dX5_isCounter_2 : decode cX5_isCounter 2 = .ok (.invokevirtual 69, 3) := by decide +kernel
theorem dX5_isCounter_5 : decode cX5_isCounter 5 = .ok (.ifCond .eq 18, 3) := by decide +kernel
theorem dX5_isCounter_8 : decode cX5_isCounter 8 = .ok (.aload_n 0, 1) := by decide +kernel
theorem dX5_isCounter_9 : decode cX5_isCounter 9 = .ok (.getfield 47, 3) := by decide +kernel
theorem dX5_isCounter_12 : decode cX5_isCounter 12 = .ok (.iload_n 2, 1) := by decide +kernel
theorem dX5_isCounter_13 : decode cX5_isCounter 13 = .ok (.invokevirtual 72, 3) := by decide +kernel
theorem dX5_isCounter_16 : decode cX5_isCounter 16 = .ok (.ifCond .eq 7, 3) := by decide +kernel
theorem dX5_isCounter_19 : decode cX5_isCounter 19 = .ok (.iconst 1, 1) := by decide +kernel
theorem dX5_isCounter_20 : decode cX5_isCounter 20 = .ok (.goto 4, 3) := by decide +kernel
theorem dX5_isCounter_23 : decode cX5_isCounter 23 = .ok (.iconst 0, 1) := by decide +kernel
theorem dX5_isCounter_24 : decode cX5_isCounter 24 = .ok (.ireturn, 1) := by decide +kernel
theorem dX5_counter_0 : decode cX5_counter 0 = .ok (.iload_n 0, 1) := by decide +kernel
theorem dX5_counter_1 : decode cX5_counter 1 = .ok (.bipush 16, 2) := by decide +kernel
theorem dX5_counter_3 : decode cX5_counter 3 = .ok (.imul, 1) := by decide +kernel
theorem dX5_counter_4 : decode cX5_counter 4 = .ok (.iload_n 1, 1) := by decide +kernel
theorem dX5_counter_5 : decode cX5_counter 5 = .ok (.iadd, 1) := by decide +kernel
theorem dX5_counter_6 : decode cX5_counter 6 = .ok (.ireturn, 1) := by decide +kernel
theorem dX5_setShown_0 : decode cX5_setShown 0 = .ok (.aload_n 0, 1) := by decide +kernel
theorem dX5_setShown_1 : decode cX5_setShown 1 = .ok (.iload_n 1, 1) := by decide +kernel
theorem dX5_setShown_2 : decode cX5_setShown 2 = .ok (.iload_n 2, 1) := by decide +kernel
theorem dX5_setShown_3 : decode cX5_setShown 3 = .ok (.invokevirtual 75, 3) := by decide +kernel
theorem dX5_setShown_6 : decode cX5_setShown 6 = .ok (.ifCond .eq 10, 3) := by decide +kernel
theorem dX5_setShown_9 : decode cX5_setShown 9 = .ok (.iload_n 3, 1) := by decide +kernel
theorem dX5_setShown_10 : decode cX5_setShown 10 = .ok (.invokestatic 61, 3) := by decide +kernel
theorem dX5_setShown_13 : decode cX5_setShown 13 = .ok (.ifCond .ne 5, 3) := by decide +kernel
theorem dX5_setShown_16 : decode cX5_setShown 16 = .ok (.iconst 0, 1) := by decide +kernel
theorem dX5_setShown_17 : decode cX5_setShown 17 = .ok (.ireturn, 1) := by decide +kernel
theorem dX5_setShown_18 : decode cX5_setShown 18 = .ok (.aload_n 0, 1) := by decide +kernel
theorem dX5_setShown_19 : decode cX5_setShown 19 = .ok (.getfield 26, 3) := by decide +kernel
theorem dX5_setShown_22 : decode cX5_setShown 22 = .ok (.iload_n 1, 1) := by decide +kernel
theorem dX5_setShown_23 : decode cX5_setShown 23 = .ok (.iload_n 2, 1) := by decide +kernel
theorem dX5_setShown_24 : decode cX5_setShown 24 = .ok (.invokestatic 79, 3) := by decide +kernel
theorem dX5_setShown_27 : decode cX5_setShown 27 = .ok (.iload_n 3, 1) := by decide +kernel
theorem dX5_setShown_28 : decode cX5_setShown 28 = .ok (.invokestatic 65, 3) := by decide +kernel
theorem dX5_setShown_31 : decode cX5_setShown 31 = .ok (.iconst 1, 1) := by decide +kernel
theorem dX5_setShown_32 : decode cX5_setShown 32 = .ok (.ireturn, 1) := by decide +kernel
theorem dX5_shownAt_0 : decode cX5_shownAt 0 = .ok (.aload_n 0, 1) := by decide +kernel
theorem dX5_shownAt_1 : decode cX5_shownAt 1 = .ok (.getfield 26, 3) := by decide +kernel
theorem dX5_shownAt_4 : decode cX5_shownAt 4 = .ok (.iload_n 1, 1) := by decide +kernel
theorem dX5_shownAt_5 : decode cX5_shownAt 5 = .ok (.iload_n 2, 1) := by decide +kernel
theorem dX5_shownAt_6 : decode cX5_shownAt 6 = .ok (.invokestatic 79, 3) := by decide +kernel
theorem dX5_shownAt_9 : decode cX5_shownAt 9 = .ok (.invokestatic 83, 3) := by decide +kernel
theorem dX5_shownAt_12 : decode cX5_shownAt 12 = .ok (.ireturn, 1) := by decide +kernel
theorem dX5_addFault_0 : decode cX5_addFault 0 = .ok (.aload_n 0, 1) := by decide +kernel
theorem dX5_addFault_1 : decode cX5_addFault 1 = .ok (.iload_n 1, 1) := by decide +kernel
theorem dX5_addFault_2 : decode cX5_addFault 2 = .ok (.invokevirtual 69, 3) := by decide +kernel
theorem dX5_addFault_5 : decode cX5_addFault 5 = .ok (.ifCond .eq 24, 3) := by decide +kernel
theorem dX5_addFault_8 : decode cX5_addFault 8 = .ok (.aload_n 0, 1) := by decide +kernel
theorem dX5_addFault_9 : decode cX5_addFault 9 = .ok (.iload_n 1, 1) := by decide +kernel
theorem dX5_addFault_10 : decode cX5_addFault 10 = .ok (.invokevirtual 87, 3) := by decide +kernel
theorem dX5_addFault_13 : decode cX5_addFault 13 = .ok (.bipush 8, 2) := by decide +kernel
theorem dX5_addFault_15 : decode cX5_addFault 15 = .ok (.if_icmp .ge 14, 3) := by decide +kernel
theorem dX5_addFault_18 : decode cX5_addFault 18 = .ok (.aload_n 0, 1) := by decide +kernel
theorem dX5_addFault_19 : decode cX5_addFault 19 = .ok (.iload_n 2, 1) := by decide +kernel
theorem dX5_addFault_20 : decode cX5_addFault 20 = .ok (.iload_n 3, 1) := by decide +kernel
theorem dX5_addFault_21 : decode cX5_addFault 21 = .ok (.iload 4, 2) := by decide +kernel
theorem dX5_addFault_23 : decode cX5_addFault 23 = .ok (.invokevirtual 91, 3) := by decide +kernel
theorem dX5_addFault_26 : decode cX5_addFault 26 = .ok (.ifCond .ne 5, 3) := by decide +kernel
theorem dX5_addFault_29 : decode cX5_addFault 29 = .ok (.iconst (-1), 1) := by decide +kernel
theorem dX5_addFault_30 : decode cX5_addFault 30 = .ok (.ireturn, 1) := by decide +kernel
theorem dX5_addFault_31 : decode cX5_addFault 31 = .ok (.aload_n 0, 1) := by decide +kernel
theorem dX5_addFault_32 : decode cX5_addFault 32 = .ok (.iload_n 1, 1) := by decide +kernel
theorem dX5_addFault_33 : decode cX5_addFault 33 = .ok (.invokevirtual 87, 3) := by decide +kernel
theorem dX5_addFault_36 : decode cX5_addFault 36 = .ok (.istore 5, 2) := by decide +kernel
theorem dX5_addFault_38 : decode cX5_addFault 38 = .ok (.iload_n 1, 1) := by decide +kernel
theorem dX5_addFault_39 : decode cX5_addFault 39 = .ok (.bipush 8, 2) := by decide +kernel
theorem dX5_addFault_41 : decode cX5_addFault 41 = .ok (.imul, 1) := by decide +kernel
theorem dX5_addFault_42 : decode cX5_addFault 42 = .ok (.iload 5, 2) := by decide +kernel
theorem dX5_addFault_44 : decode cX5_addFault 44 = .ok (.iadd, 1) := by decide +kernel
theorem dX5_addFault_45 : decode cX5_addFault 45 = .ok (.istore 6, 2) := by decide +kernel
theorem dX5_addFault_47 : decode cX5_addFault 47 = .ok (.aload_n 0, 1) := by decide +kernel
theorem dX5_addFault_48 : decode cX5_addFault 48 = .ok (.getfield 32, 3) := by decide +kernel
theorem dX5_addFault_51 : decode cX5_addFault 51 = .ok (.iload 6, 2) := by decide +kernel
theorem dX5_addFault_53 : decode cX5_addFault 53 = .ok (.iload_n 2, 1) := by decide +kernel
theorem dX5_addFault_54 : decode cX5_addFault 54 = .ok (.invokestatic 65, 3) := by decide +kernel
theorem dX5_addFault_57 : decode cX5_addFault 57 = .ok (.aload_n 0, 1) := by decide +kernel
theorem dX5_addFault_58 : decode cX5_addFault 58 = .ok (.getfield 35, 3) := by decide +kernel
theorem dX5_addFault_61 : decode cX5_addFault 61 = .ok (.iload 6, 2) := by decide +kernel
theorem dX5_addFault_63 : decode cX5_addFault 63 = .ok (.iload_n 3, 1) := by decide +kernel
theorem dX5_addFault_64 : decode cX5_addFault 64 = .ok (.invokestatic 65, 3) := by decide +kernel
theorem dX5_addFault_67 : decode cX5_addFault 67 = .ok (.aload_n 0, 1) := by decide +kernel
theorem dX5_addFault_68 : decode cX5_addFault 68 = .ok (.getfield 38, 3) := by decide +kernel
theorem dX5_addFault_71 : decode cX5_addFault 71 = .ok (.iload 6, 2) := by decide +kernel
theorem dX5_addFault_73 : decode cX5_addFault 73 = .ok (.iload 4, 2) := by decide +kernel
theorem dX5_addFault_75 : decode cX5_addFault 75 = .ok (.invokestatic 65, 3) := by decide +kernel
theorem dX5_addFault_78 : decode cX5_addFault 78 = .ok (.aload_n 0, 1) := by decide +kernel
theorem dX5_addFault_79 : decode cX5_addFault 79 = .ok (.getfield 29, 3) := by decide +kernel
theorem dX5_addFault_82 : decode cX5_addFault 82 = .ok (.iload_n 1, 1) := by decide +kernel
theorem dX5_addFault_83 : decode cX5_addFault 83 = .ok (.iload 5, 2) := by decide +kernel
theorem dX5_addFault_85 : decode cX5_addFault 85 = .ok (.iconst 1, 1) := by decide +kernel
theorem dX5_addFault_86 : decode cX5_addFault 86 = .ok (.iadd, 1) := by decide +kernel
theorem dX5_addFault_87 : decode cX5_addFault 87 = .ok (.invokestatic 65, 3) := by decide +kernel
theorem dX5_addFault_90 : decode cX5_addFault 90 = .ok (.iload 5, 2) := by decide +kernel
theorem dX5_addFault_92 : decode cX5_addFault 92 = .ok (.ireturn, 1) := by decide +kernel
theorem dX5_canBe_0 : decode cX5_canBe 0 = .ok (.iload_n 1, 1) := by decide +kernel
theorem dX5_canBe_1 : decode cX5_canBe 1 = .ok (.tableswitch 140 0 4 #[35, 61, 94, 103, 131], 35) := by decide +kernel
theorem dX5_canBe_36 : decode cX5_canBe 36 = .ok (.aload_n 0, 1) := by decide +kernel
theorem dX5_canBe_37 : decode cX5_canBe 37 = .ok (.getfield 47, 3) := by decide +kernel
theorem dX5_canBe_40 : decode cX5_canBe 40 = .ok (.iload_n 2, 1) := by decide +kernel
theorem dX5_canBe_41 : decode cX5_canBe 41 = .ok (.invokevirtual 72, 3) := by decide +kernel
theorem dX5_canBe_44 : decode cX5_canBe 44 = .ok (.ifCond .eq 16, 3) := by decide +kernel
theorem dX5_canBe_47 : decode cX5_canBe 47 = .ok (.iload_n 3, 1) := by decide +kernel
theorem dX5_canBe_48 : decode cX5_canBe 48 = .ok (.iconst 0, 1) := by decide +kernel
theorem dX5_canBe_49 : decode cX5_canBe 49 = .ok (.iconst 1, 1) := by decide +kernel
theorem dX5_canBe_50 : decode cX5_canBe 50 = .ok (.invokestatic 55, 3) := by decide +kernel
theorem dX5_canBe_53 : decode cX5_canBe 53 = .ok (.ifCond .eq 7, 3) := by decide +kernel
theorem dX5_canBe_56 : decode cX5_canBe 56 = .ok (.iconst 1, 1) := by decide +kernel
theorem dX5_canBe_57 : decode cX5_canBe 57 = .ok (.goto 4, 3) := by decide +kernel
theorem dX5_canBe_60 : decode cX5_canBe 60 = .ok (.iconst 0, 1) := by decide +kernel
theorem dX5_canBe_61 : decode cX5_canBe 61 = .ok (.ireturn, 1) := by decide +kernel
theorem dX5_canBe_62 : decode cX5_canBe 62 = .ok (.aload_n 0, 1) := by decide +kernel
theorem dX5_canBe_63 : decode cX5_canBe 63 = .ok (.getfield 47, 3) := by decide +kernel
theorem dX5_canBe_66 : decode cX5_canBe 66 = .ok (.iload_n 2, 1) := by decide +kernel
theorem dX5_canBe_67 : decode cX5_canBe 67 = .ok (.invokevirtual 72, 3) := by decide +kernel
theorem dX5_canBe_70 : decode cX5_canBe 70 = .ok (.ifCond .eq 23, 3) := by decide +kernel
theorem dX5_canBe_73 : decode cX5_canBe 73 = .ok (.aload_n 0, 1) := by decide +kernel
theorem dX5_canBe_74 : decode cX5_canBe 74 = .ok (.getfield 47, 3) := by decide +kernel
theorem dX5_canBe_77 : decode cX5_canBe 77 = .ok (.iload_n 3, 1) := by decide +kernel
theorem dX5_canBe_78 : decode cX5_canBe 78 = .ok (.invokevirtual 72, 3) := by decide +kernel
theorem dX5_canBe_81 : decode cX5_canBe 81 = .ok (.ifCond .eq 12, 3) := by decide +kernel
theorem dX5_canBe_84 : decode cX5_canBe 84 = .ok (.iload_n 2, 1) := by decide +kernel
theorem dX5_canBe_85 : decode cX5_canBe 85 = .ok (.iload_n 3, 1) := by decide +kernel
theorem dX5_canBe_86 : decode cX5_canBe 86 = .ok (.if_icmp .eq 7, 3) := by decide +kernel
theorem dX5_canBe_89 : decode cX5_canBe 89 = .ok (.iconst 1, 1) := by decide +kernel
theorem dX5_canBe_90 : decode cX5_canBe 90 = .ok (.goto 4, 3) := by decide +kernel
theorem dX5_canBe_93 : decode cX5_canBe 93 = .ok (.iconst 0, 1) := by decide +kernel
theorem dX5_canBe_94 : decode cX5_canBe 94 = .ok (.ireturn, 1) := by decide +kernel
theorem dX5_canBe_95 : decode cX5_canBe 95 = .ok (.aload_n 0, 1) := by decide +kernel
theorem dX5_canBe_96 : decode cX5_canBe 96 = .ok (.getfield 47, 3) := by decide +kernel
theorem dX5_canBe_99 : decode cX5_canBe 99 = .ok (.iload_n 2, 1) := by decide +kernel
theorem dX5_canBe_100 : decode cX5_canBe 100 = .ok (.invokevirtual 72, 3) := by decide +kernel
theorem dX5_canBe_103 : decode cX5_canBe 103 = .ok (.ireturn, 1) := by decide +kernel
theorem dX5_canBe_104 : decode cX5_canBe 104 = .ok (.aload_n 0, 1) := by decide +kernel
theorem dX5_canBe_105 : decode cX5_canBe 105 = .ok (.getfield 47, 3) := by decide +kernel
theorem dX5_canBe_108 : decode cX5_canBe 108 = .ok (.iload_n 2, 1) := by decide +kernel
theorem dX5_canBe_109 : decode cX5_canBe 109 = .ok (.invokevirtual 72, 3) := by decide +kernel
theorem dX5_canBe_112 : decode cX5_canBe 112 = .ok (.ifCond .eq 18, 3) := by decide +kernel
theorem dX5_canBe_115 : decode cX5_canBe 115 = .ok (.iload_n 3, 1) := by decide +kernel
theorem dX5_canBe_116 : decode cX5_canBe 116 = .ok (.iconst 1, 1) := by decide +kernel
theorem dX5_canBe_117 : decode cX5_canBe 117 = .ok (.sipush 999, 3) := by decide +kernel
theorem dX5_canBe_120 : decode cX5_canBe 120 = .ok (.invokestatic 55, 3) := by decide +kernel
theorem dX5_canBe_123 : decode cX5_canBe 123 = .ok (.ifCond .eq 7, 3) := by decide +kernel
theorem dX5_canBe_126 : decode cX5_canBe 126 = .ok (.iconst 1, 1) := by decide +kernel
theorem dX5_canBe_127 : decode cX5_canBe 127 = .ok (.goto 4, 3) := by decide +kernel
theorem dX5_canBe_130 : decode cX5_canBe 130 = .ok (.iconst 0, 1) := by decide +kernel
theorem dX5_canBe_131 : decode cX5_canBe 131 = .ok (.ireturn, 1) := by decide +kernel
theorem dX5_canBe_132 : decode cX5_canBe 132 = .ok (.aload_n 0, 1) := by decide +kernel
theorem dX5_canBe_133 : decode cX5_canBe 133 = .ok (.getfield 47, 3) := by decide +kernel
theorem dX5_canBe_136 : decode cX5_canBe 136 = .ok (.iload_n 2, 1) := by decide +kernel
theorem dX5_canBe_137 : decode cX5_canBe 137 = .ok (.invokevirtual 94, 3) := by decide +kernel
theorem dX5_canBe_140 : decode cX5_canBe 140 = .ok (.ireturn, 1) := by decide +kernel
theorem dX5_canBe_141 : decode cX5_canBe 141 = .ok (.iconst 0, 1) := by decide +kernel
theorem dX5_canBe_142 : decode cX5_canBe 142 = .ok (.ireturn, 1) := by decide +kernel
theorem dX5_faultsOf_0 : decode cX5_faultsOf 0 = .ok (.aload_n 0, 1) := by decide +kernel
theorem dX5_faultsOf_1 : decode cX5_faultsOf 1 = .ok (.getfield 29, 3) := by decide +kernel
theorem dX5_faultsOf_4 : decode cX5_faultsOf 4 = .ok (.iload_n 1, 1) := by decide +kernel
theorem dX5_faultsOf_5 : decode cX5_faultsOf 5 = .ok (.invokestatic 83, 3) := by decide +kernel
theorem dX5_faultsOf_8 : decode cX5_faultsOf 8 = .ok (.ireturn, 1) := by decide +kernel
theorem dX5_kindOf_0 : decode cX5_kindOf 0 = .ok (.aload_n 0, 1) := by decide +kernel
theorem dX5_kindOf_1 : decode cX5_kindOf 1 = .ok (.getfield 32, 3) := by decide +kernel
theorem dX5_kindOf_4 : decode cX5_kindOf 4 = .ok (.iload_n 1, 1) := by decide +kernel
theorem dX5_kindOf_5 : decode cX5_kindOf 5 = .ok (.bipush 8, 2) := by decide +kernel
theorem dX5_kindOf_7 : decode cX5_kindOf 7 = .ok (.imul, 1) := by decide +kernel
theorem dX5_kindOf_8 : decode cX5_kindOf 8 = .ok (.iload_n 2, 1) := by decide +kernel
theorem dX5_kindOf_9 : decode cX5_kindOf 9 = .ok (.iadd, 1) := by decide +kernel
theorem dX5_kindOf_10 : decode cX5_kindOf 10 = .ok (.invokestatic 83, 3) := by decide +kernel
theorem dX5_kindOf_13 : decode cX5_kindOf 13 = .ok (.ireturn, 1) := by decide +kernel
theorem dX5_firstOf_0 : decode cX5_firstOf 0 = .ok (.aload_n 0, 1) := by decide +kernel
theorem dX5_firstOf_1 : decode cX5_firstOf 1 = .ok (.getfield 35, 3) := by decide +kernel
theorem dX5_firstOf_4 : decode cX5_firstOf 4 = .ok (.iload_n 1, 1) := by decide +kernel
theorem dX5_firstOf_5 : decode cX5_firstOf 5 = .ok (.bipush 8, 2) := by decide +kernel
theorem dX5_firstOf_7 : decode cX5_firstOf 7 = .ok (.imul, 1) := by decide +kernel
theorem dX5_firstOf_8 : decode cX5_firstOf 8 = .ok (.iload_n 2, 1) := by decide +kernel
theorem dX5_firstOf_9 : decode cX5_firstOf 9 = .ok (.iadd, 1) := by decide +kernel
theorem dX5_firstOf_10 : decode cX5_firstOf 10 = .ok (.invokestatic 83, 3) := by decide +kernel
theorem dX5_firstOf_13 : decode cX5_firstOf 13 = .ok (.ireturn, 1) := by decide +kernel
theorem dX5_secondOf_0 : decode cX5_secondOf 0 = .ok (.aload_n 0, 1) := by decide +kernel
theorem dX5_secondOf_1 : decode cX5_secondOf 1 = .ok (.getfield 38, 3) := by decide +kernel
theorem dX5_secondOf_4 : decode cX5_secondOf 4 = .ok (.iload_n 1, 1) := by decide +kernel
theorem dX5_secondOf_5 : decode cX5_secondOf 5 = .ok (.bipush 8, 2) := by decide +kernel
theorem dX5_secondOf_7 : decode cX5_secondOf 7 = .ok (.imul, 1) := by decide +kernel
theorem dX5_secondOf_8 : decode cX5_secondOf 8 = .ok (.iload_n 2, 1) := by decide +kernel
theorem dX5_secondOf_9 : decode cX5_secondOf 9 = .ok (.iadd, 1) := by decide +kernel
theorem dX5_secondOf_10 : decode cX5_secondOf 10 = .ok (.invokestatic 83, 3) := by decide +kernel
theorem dX5_secondOf_13 : decode cX5_secondOf 13 = .ok (.ireturn, 1) := by decide +kernel
theorem dX5_wheel_0 : decode cX5_wheel 0 = .ok (.iload_n 0, 1) := by decide +kernel
theorem dX5_wheel_1 : decode cX5_wheel 1 = .ok (.ifCond .ne 8, 3) := by decide +kernel
theorem dX5_wheel_4 : decode cX5_wheel 4 = .ok (.bipush 10, 2) := by decide +kernel
theorem dX5_wheel_6 : decode cX5_wheel 6 = .ok (.goto 5, 3) := by decide +kernel
theorem dX5_wheel_9 : decode cX5_wheel 9 = .ok (.bipush 100, 2) := by decide +kernel
theorem dX5_wheel_11 : decode cX5_wheel 11 = .ok (.ireturn, 1) := by decide +kernel
theorem dX5_addRecount_0 : decode cX5_addRecount 0 = .ok (.aload_n 0, 1) := by decide +kernel
theorem dX5_addRecount_1 : decode cX5_addRecount 1 = .ok (.iload_n 1, 1) := by decide +kernel
theorem dX5_addRecount_2 : decode cX5_addRecount 2 = .ok (.iload_n 2, 1) := by decide +kernel
theorem dX5_addRecount_3 : decode cX5_addRecount 3 = .ok (.invokevirtual 75, 3) := by decide +kernel
theorem dX5_addRecount_6 : decode cX5_addRecount 6 = .ok (.ifCond .eq 10, 3) := by decide +kernel
theorem dX5_addRecount_9 : decode cX5_addRecount 9 = .ok (.iload_n 3, 1) := by decide +kernel
theorem dX5_addRecount_10 : decode cX5_addRecount 10 = .ok (.invokestatic 61, 3) := by decide +kernel
theorem dX5_addRecount_13 : decode cX5_addRecount 13 = .ok (.ifCond .ne 5, 3) := by decide +kernel
theorem dX5_addRecount_16 : decode cX5_addRecount 16 = .ok (.iconst (-1), 1) := by decide +kernel
theorem dX5_addRecount_17 : decode cX5_addRecount 17 = .ok (.ireturn, 1) := by decide +kernel
theorem dX5_addRecount_18 : decode cX5_addRecount 18 = .ok (.iload_n 1, 1) := by decide +kernel
theorem dX5_addRecount_19 : decode cX5_addRecount 19 = .ok (.iload_n 2, 1) := by decide +kernel
theorem dX5_addRecount_20 : decode cX5_addRecount 20 = .ok (.invokestatic 79, 3) := by decide +kernel
theorem dX5_addRecount_23 : decode cX5_addRecount 23 = .ok (.istore 4, 2) := by decide +kernel
theorem dX5_addRecount_25 : decode cX5_addRecount 25 = .ok (.aload_n 0, 1) := by decide +kernel
theorem dX5_addRecount_26 : decode cX5_addRecount 26 = .ok (.getfield 41, 3) := by decide +kernel
theorem dX5_addRecount_29 : decode cX5_addRecount 29 = .ok (.iload 4, 2) := by decide +kernel
theorem dX5_addRecount_31 : decode cX5_addRecount 31 = .ok (.invokestatic 83, 3) := by decide +kernel
theorem dX5_addRecount_34 : decode cX5_addRecount 34 = .ok (.istore 5, 2) := by decide +kernel
theorem dX5_addRecount_36 : decode cX5_addRecount 36 = .ok (.iload 5, 2) := by decide +kernel
theorem dX5_addRecount_38 : decode cX5_addRecount 38 = .ok (.bipush 8, 2) := by decide +kernel
theorem dX5_addRecount_40 : decode cX5_addRecount 40 = .ok (.if_icmp .lt 5, 3) := by decide +kernel
theorem dX5_addRecount_43 : decode cX5_addRecount 43 = .ok (.iconst (-1), 1) := by decide +kernel
theorem dX5_addRecount_44 : decode cX5_addRecount 44 = .ok (.ireturn, 1) := by decide +kernel
theorem dX5_addRecount_45 : decode cX5_addRecount 45 = .ok (.aload_n 0, 1) := by decide +kernel
theorem dX5_addRecount_46 : decode cX5_addRecount 46 = .ok (.getfield 44, 3) := by decide +kernel
theorem dX5_addRecount_49 : decode cX5_addRecount 49 = .ok (.iload 4, 2) := by decide +kernel
theorem dX5_addRecount_51 : decode cX5_addRecount 51 = .ok (.bipush 8, 2) := by decide +kernel
theorem dX5_addRecount_53 : decode cX5_addRecount 53 = .ok (.imul, 1) := by decide +kernel
theorem dX5_addRecount_54 : decode cX5_addRecount 54 = .ok (.iload 5, 2) := by decide +kernel
theorem dX5_addRecount_56 : decode cX5_addRecount 56 = .ok (.iadd, 1) := by decide +kernel
theorem dX5_addRecount_57 : decode cX5_addRecount 57 = .ok (.iload_n 3, 1) := by decide +kernel
theorem dX5_addRecount_58 : decode cX5_addRecount 58 = .ok (.invokestatic 65, 3) := by decide +kernel
theorem dX5_addRecount_61 : decode cX5_addRecount 61 = .ok (.aload_n 0, 1) := by decide +kernel
theorem dX5_addRecount_62 : decode cX5_addRecount 62 = .ok (.getfield 41, 3) := by decide +kernel
theorem dX5_addRecount_65 : decode cX5_addRecount 65 = .ok (.iload 4, 2) := by decide +kernel
theorem dX5_addRecount_67 : decode cX5_addRecount 67 = .ok (.iload 5, 2) := by decide +kernel
theorem dX5_addRecount_69 : decode cX5_addRecount 69 = .ok (.iconst 1, 1) := by decide +kernel
theorem dX5_addRecount_70 : decode cX5_addRecount 70 = .ok (.iadd, 1) := by decide +kernel
theorem dX5_addRecount_71 : decode cX5_addRecount 71 = .ok (.invokestatic 65, 3) := by decide +kernel
theorem dX5_addRecount_74 : decode cX5_addRecount 74 = .ok (.iload 5, 2) := by decide +kernel
theorem dX5_addRecount_76 : decode cX5_addRecount 76 = .ok (.iconst 1, 1) := by decide +kernel
theorem dX5_addRecount_77 : decode cX5_addRecount 77 = .ok (.iadd, 1) := by decide +kernel
theorem dX5_addRecount_78 : decode cX5_addRecount 78 = .ok (.ireturn, 1) := by decide +kernel
theorem dX5_keptRecount_0 : decode cX5_keptRecount 0 = .ok (.aload_n 0, 1) := by decide +kernel
theorem dX5_keptRecount_1 : decode cX5_keptRecount 1 = .ok (.iload_n 1, 1) := by decide +kernel
theorem dX5_keptRecount_2 : decode cX5_keptRecount 2 = .ok (.iload_n 2, 1) := by decide +kernel
theorem dX5_keptRecount_3 : decode cX5_keptRecount 3 = .ok (.invokevirtual 75, 3) := by decide +kernel
theorem dX5_keptRecount_6 : decode cX5_keptRecount 6 = .ok (.ifCond .ne 5, 3) := by decide +kernel
theorem dX5_keptRecount_9 : decode cX5_keptRecount 9 = .ok (.iconst (-1), 1) := by decide +kernel
theorem dX5_keptRecount_10 : decode cX5_keptRecount 10 = .ok (.ireturn, 1) := by decide +kernel
theorem dX5_keptRecount_11 : decode cX5_keptRecount 11 = .ok (.iload_n 1, 1) := by decide +kernel
theorem dX5_keptRecount_12 : decode cX5_keptRecount 12 = .ok (.iload_n 2, 1) := by decide +kernel
theorem dX5_keptRecount_13 : decode cX5_keptRecount 13 = .ok (.invokestatic 79, 3) := by decide +kernel
theorem dX5_keptRecount_16 : decode cX5_keptRecount 16 = .ok (.istore 4, 2) := by decide +kernel
theorem dX5_keptRecount_18 : decode cX5_keptRecount 18 = .ok (.iload_n 3, 1) := by decide +kernel
theorem dX5_keptRecount_19 : decode cX5_keptRecount 19 = .ok (.iconst 0, 1) := by decide +kernel
theorem dX5_keptRecount_20 : decode cX5_keptRecount 20 = .ok (.aload_n 0, 1) := by decide +kernel
theorem dX5_keptRecount_21 : decode cX5_keptRecount 21 = .ok (.getfield 41, 3) := by decide +kernel
theorem dX5_keptRecount_24 : decode cX5_keptRecount 24 = .ok (.iload 4, 2) := by decide +kernel
theorem dX5_keptRecount_26 : decode cX5_keptRecount 26 = .ok (.invokestatic 83, 3) := by decide +kernel
theorem dX5_keptRecount_29 : decode cX5_keptRecount 29 = .ok (.iconst 1, 1) := by decide +kernel
theorem dX5_keptRecount_30 : decode cX5_keptRecount 30 = .ok (.isub, 1) := by decide +kernel
theorem dX5_keptRecount_31 : decode cX5_keptRecount 31 = .ok (.invokestatic 55, 3) := by decide +kernel
theorem dX5_keptRecount_34 : decode cX5_keptRecount 34 = .ok (.istore 5, 2) := by decide +kernel
theorem dX5_keptRecount_36 : decode cX5_keptRecount 36 = .ok (.iload 5, 2) := by decide +kernel
theorem dX5_keptRecount_38 : decode cX5_keptRecount 38 = .ok (.ifCond .eq 20, 3) := by decide +kernel
theorem dX5_keptRecount_41 : decode cX5_keptRecount 41 = .ok (.aload_n 0, 1) := by decide +kernel
theorem dX5_keptRecount_42 : decode cX5_keptRecount 42 = .ok (.getfield 44, 3) := by decide +kernel
theorem dX5_keptRecount_45 : decode cX5_keptRecount 45 = .ok (.iload 4, 2) := by decide +kernel
theorem dX5_keptRecount_47 : decode cX5_keptRecount 47 = .ok (.bipush 8, 2) := by decide +kernel
theorem dX5_keptRecount_49 : decode cX5_keptRecount 49 = .ok (.imul, 1) := by decide +kernel
theorem dX5_keptRecount_50 : decode cX5_keptRecount 50 = .ok (.iload_n 3, 1) := by decide +kernel
theorem dX5_keptRecount_51 : decode cX5_keptRecount 51 = .ok (.iadd, 1) := by decide +kernel
theorem dX5_keptRecount_52 : decode cX5_keptRecount 52 = .ok (.invokestatic 83, 3) := by decide +kernel
theorem dX5_keptRecount_55 : decode cX5_keptRecount 55 = .ok (.goto 4, 3) := by decide +kernel
theorem dX5_keptRecount_58 : decode cX5_keptRecount 58 = .ok (.iconst (-1), 1) := by decide +kernel
theorem dX5_keptRecount_59 : decode cX5_keptRecount 59 = .ok (.ireturn, 1) := by decide +kernel
theorem dX5_changes_0 : decode cX5_changes 0 = .ok (.aload_n 0, 1) := by decide +kernel
theorem dX5_changes_1 : decode cX5_changes 1 = .ok (.iload_n 1, 1) := by decide +kernel
theorem dX5_changes_2 : decode cX5_changes 2 = .ok (.iload_n 2, 1) := by decide +kernel
theorem dX5_changes_3 : decode cX5_changes 3 = .ok (.invokevirtual 75, 3) := by decide +kernel
theorem dX5_changes_6 : decode cX5_changes 6 = .ok (.ifCond .ne 5, 3) := by decide +kernel
theorem dX5_changes_9 : decode cX5_changes 9 = .ok (.iconst (-1), 1) := by decide +kernel
theorem dX5_changes_10 : decode cX5_changes 10 = .ok (.ireturn, 1) := by decide +kernel
theorem dX5_changes_11 : decode cX5_changes 11 = .ok (.iload_n 1, 1) := by decide +kernel
theorem dX5_changes_12 : decode cX5_changes 12 = .ok (.iload_n 2, 1) := by decide +kernel
theorem dX5_changes_13 : decode cX5_changes 13 = .ok (.invokestatic 79, 3) := by decide +kernel
theorem dX5_changes_16 : decode cX5_changes 16 = .ok (.istore_n 3, 1) := by decide +kernel
theorem dX5_changes_17 : decode cX5_changes 17 = .ok (.aload_n 0, 1) := by decide +kernel
theorem dX5_changes_18 : decode cX5_changes 18 = .ok (.getfield 26, 3) := by decide +kernel
theorem dX5_changes_21 : decode cX5_changes 21 = .ok (.iload_n 3, 1) := by decide +kernel
theorem dX5_changes_22 : decode cX5_changes 22 = .ok (.invokestatic 83, 3) := by decide +kernel
theorem dX5_changes_25 : decode cX5_changes 25 = .ok (.istore 4, 2) := by decide +kernel
theorem dX5_changes_27 : decode cX5_changes 27 = .ok (.iconst 0, 1) := by decide +kernel
theorem dX5_changes_28 : decode cX5_changes 28 = .ok (.istore 5, 2) := by decide +kernel
theorem dX5_changes_30 : decode cX5_changes 30 = .ok (.iconst 0, 1) := by decide +kernel
theorem dX5_changes_31 : decode cX5_changes 31 = .ok (.istore 6, 2) := by decide +kernel
theorem dX5_changes_33 : decode cX5_changes 33 = .ok (.iload 6, 2) := by decide +kernel
theorem dX5_changes_35 : decode cX5_changes 35 = .ok (.aload_n 0, 1) := by decide +kernel
theorem dX5_changes_36 : decode cX5_changes 36 = .ok (.getfield 41, 3) := by decide +kernel
theorem dX5_changes_39 : decode cX5_changes 39 = .ok (.iload_n 3, 1) := by decide +kernel
theorem dX5_changes_40 : decode cX5_changes 40 = .ok (.invokestatic 83, 3) := by decide +kernel
theorem dX5_changes_43 : decode cX5_changes 43 = .ok (.if_icmp .ge 39, 3) := by decide +kernel
theorem dX5_changes_46 : decode cX5_changes 46 = .ok (.aload_n 0, 1) := by decide +kernel
theorem dX5_changes_47 : decode cX5_changes 47 = .ok (.getfield 44, 3) := by decide +kernel
theorem dX5_changes_50 : decode cX5_changes 50 = .ok (.iload_n 3, 1) := by decide +kernel
theorem dX5_changes_51 : decode cX5_changes 51 = .ok (.bipush 8, 2) := by decide +kernel
theorem dX5_changes_53 : decode cX5_changes 53 = .ok (.imul, 1) := by decide +kernel
theorem dX5_changes_54 : decode cX5_changes 54 = .ok (.iload 6, 2) := by decide +kernel
theorem dX5_changes_56 : decode cX5_changes 56 = .ok (.iadd, 1) := by decide +kernel
theorem dX5_changes_57 : decode cX5_changes 57 = .ok (.invokestatic 83, 3) := by decide +kernel
theorem dX5_changes_60 : decode cX5_changes 60 = .ok (.istore 7, 2) := by decide +kernel
theorem dX5_changes_62 : decode cX5_changes 62 = .ok (.iload 7, 2) := by decide +kernel
theorem dX5_changes_64 : decode cX5_changes 64 = .ok (.iload 4, 2) := by decide +kernel
theorem dX5_changes_66 : decode cX5_changes 66 = .ok (.if_icmp .eq 6, 3) := by decide +kernel
theorem dX5_changes_69 : decode cX5_changes 69 = .ok (.iinc 5 1, 3) := by decide +kernel
theorem dX5_changes_72 : decode cX5_changes 72 = .ok (.iload 7, 2) := by decide +kernel
theorem dX5_changes_74 : decode cX5_changes 74 = .ok (.istore 4, 2) := by decide +kernel
theorem dX5_changes_76 : decode cX5_changes 76 = .ok (.iinc 6 1, 3) := by decide +kernel
theorem dX5_changes_79 : decode cX5_changes 79 = .ok (.goto (-46), 3) := by decide +kernel
theorem dX5_changes_82 : decode cX5_changes 82 = .ok (.iload 5, 2) := by decide +kernel
theorem dX5_changes_84 : decode cX5_changes 84 = .ok (.ireturn, 1) := by decide +kernel
theorem dX5_latest_0 : decode cX5_latest 0 = .ok (.iload_n 1, 1) := by decide +kernel
theorem dX5_latest_1 : decode cX5_latest 1 = .ok (.iload_n 2, 1) := by decide +kernel
theorem dX5_latest_2 : decode cX5_latest 2 = .ok (.invokestatic 79, 3) := by decide +kernel
theorem dX5_latest_5 : decode cX5_latest 5 = .ok (.istore_n 3, 1) := by decide +kernel
theorem dX5_latest_6 : decode cX5_latest 6 = .ok (.aload_n 0, 1) := by decide +kernel
theorem dX5_latest_7 : decode cX5_latest 7 = .ok (.getfield 41, 3) := by decide +kernel
theorem dX5_latest_10 : decode cX5_latest 10 = .ok (.iload_n 3, 1) := by decide +kernel
theorem dX5_latest_11 : decode cX5_latest 11 = .ok (.invokestatic 83, 3) := by decide +kernel
theorem dX5_latest_14 : decode cX5_latest 14 = .ok (.istore 4, 2) := by decide +kernel
theorem dX5_latest_16 : decode cX5_latest 16 = .ok (.iload 4, 2) := by decide +kernel
theorem dX5_latest_18 : decode cX5_latest 18 = .ok (.ifCond .ne 14, 3) := by decide +kernel
theorem dX5_latest_21 : decode cX5_latest 21 = .ok (.aload_n 0, 1) := by decide +kernel
theorem dX5_latest_22 : decode cX5_latest 22 = .ok (.getfield 26, 3) := by decide +kernel
theorem dX5_latest_25 : decode cX5_latest 25 = .ok (.iload_n 3, 1) := by decide +kernel
theorem dX5_latest_26 : decode cX5_latest 26 = .ok (.invokestatic 83, 3) := by decide +kernel
theorem dX5_latest_29 : decode cX5_latest 29 = .ok (.goto 19, 3) := by decide +kernel
theorem dX5_latest_32 : decode cX5_latest 32 = .ok (.aload_n 0, 1) := by decide +kernel
theorem dX5_latest_33 : decode cX5_latest 33 = .ok (.getfield 44, 3) := by decide +kernel
theorem dX5_latest_36 : decode cX5_latest 36 = .ok (.iload_n 3, 1) := by decide +kernel
theorem dX5_latest_37 : decode cX5_latest 37 = .ok (.bipush 8, 2) := by decide +kernel
theorem dX5_latest_39 : decode cX5_latest 39 = .ok (.imul, 1) := by decide +kernel
theorem dX5_latest_40 : decode cX5_latest 40 = .ok (.iload 4, 2) := by decide +kernel
theorem dX5_latest_42 : decode cX5_latest 42 = .ok (.iadd, 1) := by decide +kernel
theorem dX5_latest_43 : decode cX5_latest 43 = .ok (.iconst 1, 1) := by decide +kernel
theorem dX5_latest_44 : decode cX5_latest 44 = .ok (.isub, 1) := by decide +kernel
theorem dX5_latest_45 : decode cX5_latest 45 = .ok (.invokestatic 83, 3) := by decide +kernel
theorem dX5_latest_48 : decode cX5_latest 48 = .ok (.ireturn, 1) := by decide +kernel
theorem dX5_unlikeShown_0 : decode cX5_unlikeShown 0 = .ok (.iconst 0, 1) := by decide +kernel
theorem dX5_unlikeShown_1 : decode cX5_unlikeShown 1 = .ok (.istore_n 2, 1) := by decide +kernel
theorem dX5_unlikeShown_2 : decode cX5_unlikeShown 2 = .ok (.iconst 0, 1) := by decide +kernel
theorem dX5_unlikeShown_3 : decode cX5_unlikeShown 3 = .ok (.istore_n 3, 1) := by decide +kernel
theorem dX5_unlikeShown_4 : decode cX5_unlikeShown 4 = .ok (.iload_n 3, 1) := by decide +kernel
theorem dX5_unlikeShown_5 : decode cX5_unlikeShown 5 = .ok (.aload_n 0, 1) := by decide +kernel
theorem dX5_unlikeShown_6 : decode cX5_unlikeShown 6 = .ok (.getfield 47, 3) := by decide +kernel
theorem dX5_unlikeShown_9 : decode cX5_unlikeShown 9 = .ok (.getfield 97, 3) := by decide +kernel
theorem dX5_unlikeShown_12 : decode cX5_unlikeShown 12 = .ok (.if_icmp .ge 31, 3) := by decide +kernel
theorem dX5_unlikeShown_15 : decode cX5_unlikeShown 15 = .ok (.aload_n 0, 1) := by decide +kernel
theorem dX5_unlikeShown_16 : decode cX5_unlikeShown 16 = .ok (.iload_n 1, 1) := by decide +kernel
theorem dX5_unlikeShown_17 : decode cX5_unlikeShown 17 = .ok (.iload_n 3, 1) := by decide +kernel
theorem dX5_unlikeShown_18 : decode cX5_unlikeShown 18 = .ok (.invokevirtual 100, 3) := by decide +kernel
theorem dX5_unlikeShown_21 : decode cX5_unlikeShown 21 = .ok (.aload_n 0, 1) := by decide +kernel
theorem dX5_unlikeShown_22 : decode cX5_unlikeShown 22 = .ok (.iload_n 1, 1) := by decide +kernel
theorem dX5_unlikeShown_23 : decode cX5_unlikeShown 23 = .ok (.iload_n 3, 1) := by decide +kernel
theorem dX5_unlikeShown_24 : decode cX5_unlikeShown 24 = .ok (.invokevirtual 103, 3) := by decide +kernel
theorem dX5_unlikeShown_27 : decode cX5_unlikeShown 27 = .ok (.if_icmp .eq 10, 3) := by decide +kernel
theorem dX5_unlikeShown_30 : decode cX5_unlikeShown 30 = .ok (.iload_n 2, 1) := by decide +kernel
theorem dX5_unlikeShown_31 : decode cX5_unlikeShown 31 = .ok (.iload_n 3, 1) := by decide +kernel
theorem dX5_unlikeShown_32 : decode cX5_unlikeShown 32 = .ok (.invokestatic 106, 3) := by decide +kernel
theorem dX5_unlikeShown_35 : decode cX5_unlikeShown 35 = .ok (.ior, 1) := by decide +kernel
theorem dX5_unlikeShown_36 : decode cX5_unlikeShown 36 = .ok (.istore_n 2, 1) := by decide +kernel
theorem dX5_unlikeShown_37 : decode cX5_unlikeShown 37 = .ok (.iinc 3 1, 3) := by decide +kernel
theorem dX5_unlikeShown_40 : decode cX5_unlikeShown 40 = .ok (.goto (-36), 3) := by decide +kernel
theorem dX5_unlikeShown_43 : decode cX5_unlikeShown 43 = .ok (.iload_n 2, 1) := by decide +kernel
theorem dX5_unlikeShown_44 : decode cX5_unlikeShown 44 = .ok (.ireturn, 1) := by decide +kernel
theorem dX5_takeRecounts_0 : decode cX5_takeRecounts 0 = .ok (.aload_n 0, 1) := by decide +kernel
theorem dX5_takeRecounts_1 : decode cX5_takeRecounts 1 = .ok (.iload_n 1, 1) := by decide +kernel
theorem dX5_takeRecounts_2 : decode cX5_takeRecounts 2 = .ok (.invokevirtual 109, 3) := by decide +kernel
theorem dX5_takeRecounts_5 : decode cX5_takeRecounts 5 = .ok (.invokestatic 112, 3) := by decide +kernel
theorem dX5_takeRecounts_8 : decode cX5_takeRecounts 8 = .ok (.istore_n 2, 1) := by decide +kernel
theorem dX5_takeRecounts_9 : decode cX5_takeRecounts 9 = .ok (.iconst 0, 1) := by decide +kernel
theorem dX5_takeRecounts_10 : decode cX5_takeRecounts 10 = .ok (.istore_n 3, 1) := by decide +kernel
theorem dX5_takeRecounts_11 : decode cX5_takeRecounts 11 = .ok (.iload_n 3, 1) := by decide +kernel
theorem dX5_takeRecounts_12 : decode cX5_takeRecounts 12 = .ok (.aload_n 0, 1) := by decide +kernel
theorem dX5_takeRecounts_13 : decode cX5_takeRecounts 13 = .ok (.getfield 47, 3) := by decide +kernel
theorem dX5_takeRecounts_16 : decode cX5_takeRecounts 16 = .ok (.getfield 97, 3) := by decide +kernel
theorem dX5_takeRecounts_19 : decode cX5_takeRecounts 19 = .ok (.if_icmp .ge 27, 3) := by decide +kernel
theorem dX5_takeRecounts_22 : decode cX5_takeRecounts 22 = .ok (.aload_n 0, 1) := by decide +kernel
theorem dX5_takeRecounts_23 : decode cX5_takeRecounts 23 = .ok (.getfield 26, 3) := by decide +kernel
theorem dX5_takeRecounts_26 : decode cX5_takeRecounts 26 = .ok (.iload_n 1, 1) := by decide +kernel
theorem dX5_takeRecounts_27 : decode cX5_takeRecounts 27 = .ok (.iload_n 3, 1) := by decide +kernel
theorem dX5_takeRecounts_28 : decode cX5_takeRecounts 28 = .ok (.invokestatic 79, 3) := by decide +kernel
theorem dX5_takeRecounts_31 : decode cX5_takeRecounts 31 = .ok (.aload_n 0, 1) := by decide +kernel
theorem dX5_takeRecounts_32 : decode cX5_takeRecounts 32 = .ok (.iload_n 1, 1) := by decide +kernel
theorem dX5_takeRecounts_33 : decode cX5_takeRecounts 33 = .ok (.iload_n 3, 1) := by decide +kernel
theorem dX5_takeRecounts_34 : decode cX5_takeRecounts 34 = .ok (.invokevirtual 100, 3) := by decide +kernel
theorem dX5_takeRecounts_37 : decode cX5_takeRecounts 37 = .ok (.invokestatic 65, 3) := by decide +kernel
theorem dX5_takeRecounts_40 : decode cX5_takeRecounts 40 = .ok (.iinc 3 1, 3) := by decide +kernel
theorem dX5_takeRecounts_43 : decode cX5_takeRecounts 43 = .ok (.goto (-32), 3) := by decide +kernel
theorem dX5_takeRecounts_46 : decode cX5_takeRecounts 46 = .ok (.iload_n 2, 1) := by decide +kernel
theorem dX5_takeRecounts_47 : decode cX5_takeRecounts 47 = .ok (.ireturn, 1) := by decide +kernel
theorem dJ6_numberOfTrailingZeros_0f7a4_0 : decode cJ6_numberOfTrailingZeros_0f7a4 0 = .ok (.iload_n 0, 1) := by decide +kernel
theorem dJ6_numberOfTrailingZeros_0f7a4_1 : decode cJ6_numberOfTrailingZeros_0f7a4 1 = .ok (.iconst (-1), 1) := by decide +kernel
theorem dJ6_numberOfTrailingZeros_0f7a4_2 : decode cJ6_numberOfTrailingZeros_0f7a4 2 = .ok (.ixor, 1) := by decide +kernel
theorem dJ6_numberOfTrailingZeros_0f7a4_3 : decode cJ6_numberOfTrailingZeros_0f7a4 3 = .ok (.iload_n 0, 1) := by decide +kernel
theorem dJ6_numberOfTrailingZeros_0f7a4_4 : decode cJ6_numberOfTrailingZeros_0f7a4 4 = .ok (.iconst 1, 1) := by decide +kernel
theorem dJ6_numberOfTrailingZeros_0f7a4_5 : decode cJ6_numberOfTrailingZeros_0f7a4 5 = .ok (.isub, 1) := by decide +kernel
theorem dJ6_numberOfTrailingZeros_0f7a4_6 : decode cJ6_numberOfTrailingZeros_0f7a4 6 = .ok (.iand, 1) := by decide +kernel
theorem dJ6_numberOfTrailingZeros_0f7a4_7 : decode cJ6_numberOfTrailingZeros_0f7a4 7 = .ok (.istore_n 0, 1) := by decide +kernel
theorem dJ6_numberOfTrailingZeros_0f7a4_8 : decode cJ6_numberOfTrailingZeros_0f7a4 8 = .ok (.iload_n 0, 1) := by decide +kernel
theorem dJ6_numberOfTrailingZeros_0f7a4_9 : decode cJ6_numberOfTrailingZeros_0f7a4 9 = .ok (.ifCond .gt 8, 3) := by decide +kernel
theorem dJ6_numberOfTrailingZeros_0f7a4_12 : decode cJ6_numberOfTrailingZeros_0f7a4 12 = .ok (.iload_n 0, 1) := by decide +kernel
theorem dJ6_numberOfTrailingZeros_0f7a4_13 : decode cJ6_numberOfTrailingZeros_0f7a4 13 = .ok (.bipush 32, 2) := by decide +kernel
theorem dJ6_numberOfTrailingZeros_0f7a4_15 : decode cJ6_numberOfTrailingZeros_0f7a4 15 = .ok (.iand, 1) := by decide +kernel
theorem dJ6_numberOfTrailingZeros_0f7a4_16 : decode cJ6_numberOfTrailingZeros_0f7a4 16 = .ok (.ireturn, 1) := by decide +kernel
theorem dJ6_numberOfTrailingZeros_0f7a4_17 : decode cJ6_numberOfTrailingZeros_0f7a4 17 = .ok (.iconst 1, 1) := by decide +kernel
theorem dJ6_numberOfTrailingZeros_0f7a4_18 : decode cJ6_numberOfTrailingZeros_0f7a4 18 = .ok (.istore_n 1, 1) := by decide +kernel
theorem dJ6_numberOfTrailingZeros_0f7a4_19 : decode cJ6_numberOfTrailingZeros_0f7a4 19 = .ok (.iload_n 0, 1) := by decide +kernel
theorem dJ6_numberOfTrailingZeros_0f7a4_20 : decode cJ6_numberOfTrailingZeros_0f7a4 20 = .ok (.ldc_w 264, 3) := by decide +kernel
theorem dJ6_numberOfTrailingZeros_0f7a4_23 : decode cJ6_numberOfTrailingZeros_0f7a4 23 = .ok (.if_icmp .le 11, 3) := by decide +kernel
theorem dJ6_numberOfTrailingZeros_0f7a4_26 : decode cJ6_numberOfTrailingZeros_0f7a4 26 = .ok (.iinc 1 16, 3) := by decide +kernel
theorem dJ6_numberOfTrailingZeros_0f7a4_29 : decode cJ6_numberOfTrailingZeros_0f7a4 29 = .ok (.iload_n 0, 1) := by decide +kernel
theorem dJ6_numberOfTrailingZeros_0f7a4_30 : decode cJ6_numberOfTrailingZeros_0f7a4 30 = .ok (.bipush 16, 2) := by decide +kernel
theorem dJ6_numberOfTrailingZeros_0f7a4_32 : decode cJ6_numberOfTrailingZeros_0f7a4 32 = .ok (.iushr, 1) := by decide +kernel
theorem dJ6_numberOfTrailingZeros_0f7a4_33 : decode cJ6_numberOfTrailingZeros_0f7a4 33 = .ok (.istore_n 0, 1) := by decide +kernel
theorem dJ6_numberOfTrailingZeros_0f7a4_34 : decode cJ6_numberOfTrailingZeros_0f7a4 34 = .ok (.iload_n 0, 1) := by decide +kernel
theorem dJ6_numberOfTrailingZeros_0f7a4_35 : decode cJ6_numberOfTrailingZeros_0f7a4 35 = .ok (.sipush 256, 3) := by decide +kernel
theorem dJ6_numberOfTrailingZeros_0f7a4_38 : decode cJ6_numberOfTrailingZeros_0f7a4 38 = .ok (.if_icmp .le 11, 3) := by decide +kernel
theorem dJ6_numberOfTrailingZeros_0f7a4_41 : decode cJ6_numberOfTrailingZeros_0f7a4 41 = .ok (.iinc 1 8, 3) := by decide +kernel
theorem dJ6_numberOfTrailingZeros_0f7a4_44 : decode cJ6_numberOfTrailingZeros_0f7a4 44 = .ok (.iload_n 0, 1) := by decide +kernel
theorem dJ6_numberOfTrailingZeros_0f7a4_45 : decode cJ6_numberOfTrailingZeros_0f7a4 45 = .ok (.bipush 8, 2) := by decide +kernel
theorem dJ6_numberOfTrailingZeros_0f7a4_47 : decode cJ6_numberOfTrailingZeros_0f7a4 47 = .ok (.iushr, 1) := by decide +kernel
theorem dJ6_numberOfTrailingZeros_0f7a4_48 : decode cJ6_numberOfTrailingZeros_0f7a4 48 = .ok (.istore_n 0, 1) := by decide +kernel
theorem dJ6_numberOfTrailingZeros_0f7a4_49 : decode cJ6_numberOfTrailingZeros_0f7a4 49 = .ok (.iload_n 0, 1) := by decide +kernel
theorem dJ6_numberOfTrailingZeros_0f7a4_50 : decode cJ6_numberOfTrailingZeros_0f7a4 50 = .ok (.bipush 16, 2) := by decide +kernel
theorem dJ6_numberOfTrailingZeros_0f7a4_52 : decode cJ6_numberOfTrailingZeros_0f7a4 52 = .ok (.if_icmp .le 10, 3) := by decide +kernel
theorem dJ6_numberOfTrailingZeros_0f7a4_55 : decode cJ6_numberOfTrailingZeros_0f7a4 55 = .ok (.iinc 1 4, 3) := by decide +kernel
theorem dJ6_numberOfTrailingZeros_0f7a4_58 : decode cJ6_numberOfTrailingZeros_0f7a4 58 = .ok (.iload_n 0, 1) := by decide +kernel
theorem dJ6_numberOfTrailingZeros_0f7a4_59 : decode cJ6_numberOfTrailingZeros_0f7a4 59 = .ok (.iconst 4, 1) := by decide +kernel
theorem dJ6_numberOfTrailingZeros_0f7a4_60 : decode cJ6_numberOfTrailingZeros_0f7a4 60 = .ok (.iushr, 1) := by decide +kernel
theorem dJ6_numberOfTrailingZeros_0f7a4_61 : decode cJ6_numberOfTrailingZeros_0f7a4 61 = .ok (.istore_n 0, 1) := by decide +kernel
theorem dJ6_numberOfTrailingZeros_0f7a4_62 : decode cJ6_numberOfTrailingZeros_0f7a4 62 = .ok (.iload_n 0, 1) := by decide +kernel
theorem dJ6_numberOfTrailingZeros_0f7a4_63 : decode cJ6_numberOfTrailingZeros_0f7a4 63 = .ok (.iconst 4, 1) := by decide +kernel
theorem dJ6_numberOfTrailingZeros_0f7a4_64 : decode cJ6_numberOfTrailingZeros_0f7a4 64 = .ok (.if_icmp .le 10, 3) := by decide +kernel
theorem dJ6_numberOfTrailingZeros_0f7a4_67 : decode cJ6_numberOfTrailingZeros_0f7a4 67 = .ok (.iinc 1 2, 3) := by decide +kernel
theorem dJ6_numberOfTrailingZeros_0f7a4_70 : decode cJ6_numberOfTrailingZeros_0f7a4 70 = .ok (.iload_n 0, 1) := by decide +kernel
theorem dJ6_numberOfTrailingZeros_0f7a4_71 : decode cJ6_numberOfTrailingZeros_0f7a4 71 = .ok (.iconst 2, 1) := by decide +kernel
theorem dJ6_numberOfTrailingZeros_0f7a4_72 : decode cJ6_numberOfTrailingZeros_0f7a4 72 = .ok (.iushr, 1) := by decide +kernel
theorem dJ6_numberOfTrailingZeros_0f7a4_73 : decode cJ6_numberOfTrailingZeros_0f7a4 73 = .ok (.istore_n 0, 1) := by decide +kernel
theorem dJ6_numberOfTrailingZeros_0f7a4_74 : decode cJ6_numberOfTrailingZeros_0f7a4 74 = .ok (.iload_n 1, 1) := by decide +kernel
theorem dJ6_numberOfTrailingZeros_0f7a4_75 : decode cJ6_numberOfTrailingZeros_0f7a4 75 = .ok (.iload_n 0, 1) := by decide +kernel
theorem dJ6_numberOfTrailingZeros_0f7a4_76 : decode cJ6_numberOfTrailingZeros_0f7a4 76 = .ok (.iconst 1, 1) := by decide +kernel
theorem dJ6_numberOfTrailingZeros_0f7a4_77 : decode cJ6_numberOfTrailingZeros_0f7a4 77 = .ok (.iushr, 1) := by decide +kernel
theorem dJ6_numberOfTrailingZeros_0f7a4_78 : decode cJ6_numberOfTrailingZeros_0f7a4 78 = .ok (.iadd, 1) := by decide +kernel
theorem dJ6_numberOfTrailingZeros_0f7a4_79 : decode cJ6_numberOfTrailingZeros_0f7a4 79 = .ok (.ireturn, 1) := by decide +kernel
theorem dJ6_bitCount_0f7a4_0 : decode cJ6_bitCount_0f7a4 0 = .ok (.iload_n 0, 1) := by decide +kernel
theorem dJ6_bitCount_0f7a4_1 : decode cJ6_bitCount_0f7a4 1 = .ok (.iload_n 0, 1) := by decide +kernel
theorem dJ6_bitCount_0f7a4_2 : decode cJ6_bitCount_0f7a4 2 = .ok (.iconst 1, 1) := by decide +kernel
theorem dJ6_bitCount_0f7a4_3 : decode cJ6_bitCount_0f7a4 3 = .ok (.iushr, 1) := by decide +kernel
theorem dJ6_bitCount_0f7a4_4 : decode cJ6_bitCount_0f7a4 4 = .ok (.ldc_w 265, 3) := by decide +kernel
theorem dJ6_bitCount_0f7a4_7 : decode cJ6_bitCount_0f7a4 7 = .ok (.iand, 1) := by decide +kernel
theorem dJ6_bitCount_0f7a4_8 : decode cJ6_bitCount_0f7a4 8 = .ok (.isub, 1) := by decide +kernel
theorem dJ6_bitCount_0f7a4_9 : decode cJ6_bitCount_0f7a4 9 = .ok (.istore_n 0, 1) := by decide +kernel
theorem dJ6_bitCount_0f7a4_10 : decode cJ6_bitCount_0f7a4 10 = .ok (.iload_n 0, 1) := by decide +kernel
theorem dJ6_bitCount_0f7a4_11 : decode cJ6_bitCount_0f7a4 11 = .ok (.ldc_w 266, 3) := by decide +kernel
theorem dJ6_bitCount_0f7a4_14 : decode cJ6_bitCount_0f7a4 14 = .ok (.iand, 1) := by decide +kernel
theorem dJ6_bitCount_0f7a4_15 : decode cJ6_bitCount_0f7a4 15 = .ok (.iload_n 0, 1) := by decide +kernel
theorem dJ6_bitCount_0f7a4_16 : decode cJ6_bitCount_0f7a4 16 = .ok (.iconst 2, 1) := by decide +kernel
theorem dJ6_bitCount_0f7a4_17 : decode cJ6_bitCount_0f7a4 17 = .ok (.iushr, 1) := by decide +kernel
theorem dJ6_bitCount_0f7a4_18 : decode cJ6_bitCount_0f7a4 18 = .ok (.ldc_w 266, 3) := by decide +kernel
theorem dJ6_bitCount_0f7a4_21 : decode cJ6_bitCount_0f7a4 21 = .ok (.iand, 1) := by decide +kernel
theorem dJ6_bitCount_0f7a4_22 : decode cJ6_bitCount_0f7a4 22 = .ok (.iadd, 1) := by decide +kernel
theorem dJ6_bitCount_0f7a4_23 : decode cJ6_bitCount_0f7a4 23 = .ok (.istore_n 0, 1) := by decide +kernel
theorem dJ6_bitCount_0f7a4_24 : decode cJ6_bitCount_0f7a4 24 = .ok (.iload_n 0, 1) := by decide +kernel
theorem dJ6_bitCount_0f7a4_25 : decode cJ6_bitCount_0f7a4 25 = .ok (.iload_n 0, 1) := by decide +kernel
theorem dJ6_bitCount_0f7a4_26 : decode cJ6_bitCount_0f7a4 26 = .ok (.iconst 4, 1) := by decide +kernel
theorem dJ6_bitCount_0f7a4_27 : decode cJ6_bitCount_0f7a4 27 = .ok (.iushr, 1) := by decide +kernel
theorem dJ6_bitCount_0f7a4_28 : decode cJ6_bitCount_0f7a4 28 = .ok (.iadd, 1) := by decide +kernel
theorem dJ6_bitCount_0f7a4_29 : decode cJ6_bitCount_0f7a4 29 = .ok (.ldc_w 267, 3) := by decide +kernel
theorem dJ6_bitCount_0f7a4_32 : decode cJ6_bitCount_0f7a4 32 = .ok (.iand, 1) := by decide +kernel
theorem dJ6_bitCount_0f7a4_33 : decode cJ6_bitCount_0f7a4 33 = .ok (.istore_n 0, 1) := by decide +kernel
theorem dJ6_bitCount_0f7a4_34 : decode cJ6_bitCount_0f7a4 34 = .ok (.iload_n 0, 1) := by decide +kernel
theorem dJ6_bitCount_0f7a4_35 : decode cJ6_bitCount_0f7a4 35 = .ok (.iload_n 0, 1) := by decide +kernel
theorem dJ6_bitCount_0f7a4_36 : decode cJ6_bitCount_0f7a4 36 = .ok (.bipush 8, 2) := by decide +kernel
theorem dJ6_bitCount_0f7a4_38 : decode cJ6_bitCount_0f7a4 38 = .ok (.iushr, 1) := by decide +kernel
theorem dJ6_bitCount_0f7a4_39 : decode cJ6_bitCount_0f7a4 39 = .ok (.iadd, 1) := by decide +kernel
theorem dJ6_bitCount_0f7a4_40 : decode cJ6_bitCount_0f7a4 40 = .ok (.istore_n 0, 1) := by decide +kernel
theorem dJ6_bitCount_0f7a4_41 : decode cJ6_bitCount_0f7a4 41 = .ok (.iload_n 0, 1) := by decide +kernel
theorem dJ6_bitCount_0f7a4_42 : decode cJ6_bitCount_0f7a4 42 = .ok (.iload_n 0, 1) := by decide +kernel
theorem dJ6_bitCount_0f7a4_43 : decode cJ6_bitCount_0f7a4 43 = .ok (.bipush 16, 2) := by decide +kernel
theorem dJ6_bitCount_0f7a4_45 : decode cJ6_bitCount_0f7a4 45 = .ok (.iushr, 1) := by decide +kernel
theorem dJ6_bitCount_0f7a4_46 : decode cJ6_bitCount_0f7a4 46 = .ok (.iadd, 1) := by decide +kernel
theorem dJ6_bitCount_0f7a4_47 : decode cJ6_bitCount_0f7a4 47 = .ok (.istore_n 0, 1) := by decide +kernel
theorem dJ6_bitCount_0f7a4_48 : decode cJ6_bitCount_0f7a4 48 = .ok (.iload_n 0, 1) := by decide +kernel
theorem dJ6_bitCount_0f7a4_49 : decode cJ6_bitCount_0f7a4 49 = .ok (.bipush 63, 2) := by decide +kernel
theorem dJ6_bitCount_0f7a4_51 : decode cJ6_bitCount_0f7a4 51 = .ok (.iand, 1) := by decide +kernel
theorem dJ6_bitCount_0f7a4_52 : decode cJ6_bitCount_0f7a4 52 = .ok (.ireturn, 1) := by decide +kernel
theorem dJ9_floorMod_7cf53_0 : decode cJ9_floorMod_7cf53 0 = .ok (.iload_n 0, 1) := by decide +kernel
theorem dJ9_floorMod_7cf53_1 : decode cJ9_floorMod_7cf53 1 = .ok (.iload_n 1, 1) := by decide +kernel
theorem dJ9_floorMod_7cf53_2 : decode cJ9_floorMod_7cf53 2 = .ok (.irem, 1) := by decide +kernel
theorem dJ9_floorMod_7cf53_3 : decode cJ9_floorMod_7cf53 3 = .ok (.istore_n 2, 1) := by decide +kernel
theorem dJ9_floorMod_7cf53_4 : decode cJ9_floorMod_7cf53 4 = .ok (.iload_n 0, 1) := by decide +kernel
theorem dJ9_floorMod_7cf53_5 : decode cJ9_floorMod_7cf53 5 = .ok (.iload_n 1, 1) := by decide +kernel
theorem dJ9_floorMod_7cf53_6 : decode cJ9_floorMod_7cf53 6 = .ok (.ixor, 1) := by decide +kernel
theorem dJ9_floorMod_7cf53_7 : decode cJ9_floorMod_7cf53 7 = .ok (.ifCond .ge 11, 3) := by decide +kernel
theorem dJ9_floorMod_7cf53_10 : decode cJ9_floorMod_7cf53 10 = .ok (.iload_n 2, 1) := by decide +kernel
theorem dJ9_floorMod_7cf53_11 : decode cJ9_floorMod_7cf53 11 = .ok (.ifCond .eq 7, 3) := by decide +kernel
theorem dJ9_floorMod_7cf53_14 : decode cJ9_floorMod_7cf53 14 = .ok (.iload_n 2, 1) := by decide +kernel
theorem dJ9_floorMod_7cf53_15 : decode cJ9_floorMod_7cf53 15 = .ok (.iload_n 1, 1) := by decide +kernel
theorem dJ9_floorMod_7cf53_16 : decode cJ9_floorMod_7cf53 16 = .ok (.iadd, 1) := by decide +kernel
theorem dJ9_floorMod_7cf53_17 : decode cJ9_floorMod_7cf53 17 = .ok (.ireturn, 1) := by decide +kernel
theorem dJ9_floorMod_7cf53_18 : decode cJ9_floorMod_7cf53 18 = .ok (.iload_n 2, 1) := by decide +kernel
theorem dJ9_floorMod_7cf53_19 : decode cJ9_floorMod_7cf53 19 = .ok (.ireturn, 1) := by decide +kernel
theorem dJ9_max_7cf53_0 : decode cJ9_max_7cf53 0 = .ok (.iload_n 0, 1) := by decide +kernel
theorem dJ9_max_7cf53_1 : decode cJ9_max_7cf53 1 = .ok (.iload_n 1, 1) := by decide +kernel
theorem dJ9_max_7cf53_2 : decode cJ9_max_7cf53 2 = .ok (.if_icmp .lt 7, 3) := by decide +kernel
theorem dJ9_max_7cf53_5 : decode cJ9_max_7cf53 5 = .ok (.iload_n 0, 1) := by decide +kernel
theorem dJ9_max_7cf53_6 : decode cJ9_max_7cf53 6 = .ok (.goto 4, 3) := by decide +kernel
theorem dJ9_max_7cf53_9 : decode cJ9_max_7cf53 9 = .ok (.iload_n 1, 1) := by decide +kernel
theorem dJ9_max_7cf53_10 : decode cJ9_max_7cf53 10 = .ok (.ireturn, 1) := by decide +kernel
theorem dJ9_max_f86c9_0 : decode cJ9_max_f86c9 0 = .ok (.lload_n 0, 1) := by decide +kernel
theorem dJ9_max_f86c9_1 : decode cJ9_max_f86c9 1 = .ok (.lload_n 2, 1) := by decide +kernel
theorem dJ9_max_f86c9_2 : decode cJ9_max_f86c9 2 = .ok (.lcmp, 1) := by decide +kernel
theorem dJ9_max_f86c9_3 : decode cJ9_max_f86c9 3 = .ok (.ifCond .lt 7, 3) := by decide +kernel
theorem dJ9_max_f86c9_6 : decode cJ9_max_f86c9 6 = .ok (.lload_n 0, 1) := by decide +kernel
theorem dJ9_max_f86c9_7 : decode cJ9_max_f86c9 7 = .ok (.goto 4, 3) := by decide +kernel
theorem dJ9_max_f86c9_10 : decode cJ9_max_f86c9 10 = .ok (.lload_n 2, 1) := by decide +kernel
theorem dJ9_max_f86c9_11 : decode cJ9_max_f86c9 11 = .ok (.lreturn, 1) := by decide +kernel
theorem dJ9_min_7cf53_0 : decode cJ9_min_7cf53 0 = .ok (.iload_n 0, 1) := by decide +kernel
theorem dJ9_min_7cf53_1 : decode cJ9_min_7cf53 1 = .ok (.iload_n 1, 1) := by decide +kernel
theorem dJ9_min_7cf53_2 : decode cJ9_min_7cf53 2 = .ok (.if_icmp .gt 7, 3) := by decide +kernel
theorem dJ9_min_7cf53_5 : decode cJ9_min_7cf53 5 = .ok (.iload_n 0, 1) := by decide +kernel
theorem dJ9_min_7cf53_6 : decode cJ9_min_7cf53 6 = .ok (.goto 4, 3) := by decide +kernel
theorem dJ9_min_7cf53_9 : decode cJ9_min_7cf53 9 = .ok (.iload_n 1, 1) := by decide +kernel
theorem dJ9_min_7cf53_10 : decode cJ9_min_7cf53 10 = .ok (.ireturn, 1) := by decide +kernel
theorem dJ9_min_f86c9_0 : decode cJ9_min_f86c9 0 = .ok (.lload_n 0, 1) := by decide +kernel
theorem dJ9_min_f86c9_1 : decode cJ9_min_f86c9 1 = .ok (.lload_n 2, 1) := by decide +kernel
theorem dJ9_min_f86c9_2 : decode cJ9_min_f86c9 2 = .ok (.lcmp, 1) := by decide +kernel
theorem dJ9_min_f86c9_3 : decode cJ9_min_f86c9 3 = .ok (.ifCond .gt 7, 3) := by decide +kernel
theorem dJ9_min_f86c9_6 : decode cJ9_min_f86c9 6 = .ok (.lload_n 0, 1) := by decide +kernel
theorem dJ9_min_f86c9_7 : decode cJ9_min_f86c9 7 = .ok (.goto 4, 3) := by decide +kernel
theorem dJ9_min_f86c9_10 : decode cJ9_min_f86c9 10 = .ok (.lload_n 2, 1) := by decide +kernel
theorem dJ9_min_f86c9_11 : decode cJ9_min_f86c9 11 = .ok (.lreturn, 1) := by decide +kernel
