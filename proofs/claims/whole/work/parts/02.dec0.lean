theorem dX0_init_0 : decode cX0_init 0 = .ok (.aload_n 0, 1) := by decide +kernel
theorem dX0_init_1 : decode cX0_init 1 = .ok (.invokespecial 3, 3) := by decide +kernel
theorem dX0_init_4 : decode cX0_init 4 = .ok (.return_, 1) := by decide +kernel
theorem dX0_pack_0 : decode cX0_pack 0 = .ok (.aload_n 0, 1) := by decide +kernel
theorem dX0_pack_1 : decode cX0_pack 1 = .ok (.iload_n 1, 1) := by decide +kernel
theorem dX0_pack_2 : decode cX0_pack 2 = .ok (.putfield 9, 3) := by decide +kernel
theorem dX0_pack_5 : decode cX0_pack 5 = .ok (.aload_n 0, 1) := by decide +kernel
theorem dX0_pack_6 : decode cX0_pack 6 = .ok (.iload_n 2, 1) := by decide +kernel
theorem dX0_pack_7 : decode cX0_pack 7 = .ok (.putfield 15, 3) := by decide +kernel
theorem dX0_pack_10 : decode cX0_pack 10 = .ok (.aload_n 0, 1) := by decide +kernel
theorem dX0_pack_11 : decode cX0_pack 11 = .ok (.iload_n 3, 1) := by decide +kernel
theorem dX0_pack_12 : decode cX0_pack 12 = .ok (.putfield 18, 3) := by decide +kernel
theorem dX0_pack_15 : decode cX0_pack 15 = .ok (.aload_n 0, 1) := by decide +kernel
theorem dX0_pack_16 : decode cX0_pack 16 = .ok (.iload 4, 2) := by decide +kernel
theorem dX0_pack_18 : decode cX0_pack 18 = .ok (.putfield 21, 3) := by decide +kernel
theorem dX0_pack_21 : decode cX0_pack 21 = .ok (.aload_n 0, 1) := by decide +kernel
theorem dX0_pack_22 : decode cX0_pack 22 = .ok (.iload 5, 2) := by decide +kernel
theorem dX0_pack_24 : decode cX0_pack 24 = .ok (.putfield 24, 3) := by decide +kernel
theorem dX0_pack_27 : decode cX0_pack 27 = .ok (.aload_n 0, 1) := by decide +kernel
theorem dX0_pack_28 : decode cX0_pack 28 = .ok (.iconst 0, 1) := by decide +kernel
theorem dX0_pack_29 : decode cX0_pack 29 = .ok (.putfield 27, 3) := by decide +kernel
theorem dX0_pack_32 : decode cX0_pack 32 = .ok (.aload_n 0, 1) := by decide +kernel
theorem dX0_pack_33 : decode cX0_pack 33 = .ok (.iconst 0, 1) := by decide +kernel
theorem dX0_pack_34 : decode cX0_pack 34 = .ok (.putfield 30, 3) := by decide +kernel
theorem dX0_pack_37 : decode cX0_pack 37 = .ok (.aload_n 0, 1) := by decide +kernel
theorem dX0_pack_38 : decode cX0_pack 38 = .ok (.iconst 0, 1) := by decide +kernel
theorem dX0_pack_39 : decode cX0_pack 39 = .ok (.putfield 34, 3) := by decide +kernel
theorem dX0_pack_42 : decode cX0_pack 42 = .ok (.return_, 1) := by decide +kernel
theorem dX0_copyFrom_0 : decode cX0_copyFrom 0 = .ok (.aload_n 0, 1) := by decide +kernel
theorem dX0_copyFrom_1 : decode cX0_copyFrom 1 = .ok (.aload_n 1, 1) := by decide +kernel
theorem dX0_copyFrom_2 : decode cX0_copyFrom 2 = .ok (.getfield 9, 3) := by decide +kernel
theorem dX0_copyFrom_5 : decode cX0_copyFrom 5 = .ok (.putfield 9, 3) := by decide +kernel
theorem dX0_copyFrom_8 : decode cX0_copyFrom 8 = .ok (.aload_n 0, 1) := by decide +kernel
theorem dX0_copyFrom_9 : decode cX0_copyFrom 9 = .ok (.aload_n 1, 1) := by decide +kernel
theorem dX0_copyFrom_10 : decode cX0_copyFrom 10 = .ok (.getfield 15, 3) := by decide +kernel
theorem dX0_copyFrom_13 : decode cX0_copyFrom 13 = .ok (.putfield 15, 3) := by decide +kernel
theorem dX0_copyFrom_16 : decode cX0_copyFrom 16 = .ok (.aload_n 0, 1) := by decide +kernel
theorem dX0_copyFrom_17 : decode cX0_copyFrom 17 = .ok (.aload_n 1, 1) := by decide +kernel
theorem dX0_copyFrom_18 : decode cX0_copyFrom 18 = .ok (.getfield 18, 3) := by decide +kernel
theorem dX0_copyFrom_21 : decode cX0_copyFrom 21 = .ok (.putfield 18, 3) := by decide +kernel
theorem dX0_copyFrom_24 : decode cX0_copyFrom 24 = .ok (.aload_n 0, 1) := by decide +kernel
theorem dX0_copyFrom_25 : decode cX0_copyFrom 25 = .ok (.aload_n 1, 1) := by decide +kernel
theorem dX0_copyFrom_26 : decode cX0_copyFrom 26 = .ok (.getfield 21, 3) := by decide +kernel
theorem dX0_copyFrom_29 : decode cX0_copyFrom 29 = .ok (.putfield 21, 3) := by decide +kernel
theorem dX0_copyFrom_32 : decode cX0_copyFrom 32 = .ok (.aload_n 0, 1) := by decide +kernel
theorem dX0_copyFrom_33 : decode cX0_copyFrom 33 = .ok (.aload_n 1, 1) := by decide +kernel
theorem dX0_copyFrom_34 : decode cX0_copyFrom 34 = .ok (.getfield 24, 3) := by decide +kernel
theorem dX0_copyFrom_37 : decode cX0_copyFrom 37 = .ok (.putfield 24, 3) := by decide +kernel
theorem dX0_copyFrom_40 : decode cX0_copyFrom 40 = .ok (.aload_n 0, 1) := by decide +kernel
theorem dX0_copyFrom_41 : decode cX0_copyFrom 41 = .ok (.aload_n 1, 1) := by decide +kernel
theorem dX0_copyFrom_42 : decode cX0_copyFrom 42 = .ok (.getfield 27, 3) := by decide +kernel
theorem dX0_copyFrom_45 : decode cX0_copyFrom 45 = .ok (.putfield 27, 3) := by decide +kernel
theorem dX0_copyFrom_48 : decode cX0_copyFrom 48 = .ok (.aload_n 0, 1) := by decide +kernel
theorem dX0_copyFrom_49 : decode cX0_copyFrom 49 = .ok (.aload_n 1, 1) := by decide +kernel
theorem dX0_copyFrom_50 : decode cX0_copyFrom 50 = .ok (.getfield 30, 3) := by decide +kernel
theorem dX0_copyFrom_53 : decode cX0_copyFrom 53 = .ok (.putfield 30, 3) := by decide +kernel
theorem dX0_copyFrom_56 : decode cX0_copyFrom 56 = .ok (.aload_n 0, 1) := by decide +kernel
theorem dX0_copyFrom_57 : decode cX0_copyFrom 57 = .ok (.aload_n 1, 1) := by decide +kernel
theorem dX0_copyFrom_58 : decode cX0_copyFrom 58 = .ok (.getfield 34, 3) := by decide +kernel
theorem dX0_copyFrom_61 : decode cX0_copyFrom 61 = .ok (.putfield 34, 3) := by decide +kernel
theorem dX0_copyFrom_64 : decode cX0_copyFrom 64 = .ok (.return_, 1) := by decide +kernel
theorem dX0_linesThere_0 : decode cX0_linesThere 0 = .ok (.aload_n 0, 1) := by decide +kernel
theorem dX0_linesThere_1 : decode cX0_linesThere 1 = .ok (.getfield 15, 3) := by decide +kernel
theorem dX0_linesThere_4 : decode cX0_linesThere 4 = .ok (.aload_n 0, 1) := by decide +kernel
theorem dX0_linesThere_5 : decode cX0_linesThere 5 = .ok (.getfield 34, 3) := by decide +kernel
theorem dX0_linesThere_8 : decode cX0_linesThere 8 = .ok (.isub, 1) := by decide +kernel
theorem dX0_linesThere_9 : decode cX0_linesThere 9 = .ok (.ireturn, 1) := by decide +kernel
theorem dX0_strengthOf_0 : decode cX0_strengthOf 0 = .ok (.aload_n 0, 1) := by decide +kernel
theorem dX0_strengthOf_1 : decode cX0_strengthOf 1 = .ok (.getfield 18, 3) := by decide +kernel
theorem dX0_strengthOf_4 : decode cX0_strengthOf 4 = .ok (.iconst 3, 1) := by decide +kernel
theorem dX0_strengthOf_5 : decode cX0_strengthOf 5 = .ok (.iload_n 1, 1) := by decide +kernel
theorem dX0_strengthOf_6 : decode cX0_strengthOf 6 = .ok (.imul, 1) := by decide +kernel
theorem dX0_strengthOf_7 : decode cX0_strengthOf 7 = .ok (.iadd, 1) := by decide +kernel
theorem dX0_strengthOf_8 : decode cX0_strengthOf 8 = .ok (.ireturn, 1) := by decide +kernel
theorem dX0_hasFailed_0 : decode cX0_hasFailed 0 = .ok (.aload_n 0, 1) := by decide +kernel
theorem dX0_hasFailed_1 : decode cX0_hasFailed 1 = .ok (.getfield 27, 3) := by decide +kernel
theorem dX0_hasFailed_4 : decode cX0_hasFailed 4 = .ok (.iconst 2, 1) := by decide +kernel
theorem dX0_hasFailed_5 : decode cX0_hasFailed 5 = .ok (.if_icmp .eq 11, 3) := by decide +kernel
theorem dX0_hasFailed_8 : decode cX0_hasFailed 8 = .ok (.aload_n 0, 1) := by decide +kernel
theorem dX0_hasFailed_9 : decode cX0_hasFailed 9 = .ok (.getfield 27, 3) := by decide +kernel
theorem dX0_hasFailed_12 : decode cX0_hasFailed 12 = .ok (.iconst 3, 1) := by decide +kernel
theorem dX0_hasFailed_13 : decode cX0_hasFailed 13 = .ok (.if_icmp .ne 7, 3) := by decide +kernel
theorem dX0_hasFailed_16 : decode cX0_hasFailed 16 = .ok (.iconst 1, 1) := by decide +kernel
theorem dX0_hasFailed_17 : decode cX0_hasFailed 17 = .ok (.goto 4, 3) := by decide +kernel
theorem dX0_hasFailed_20 : decode cX0_hasFailed 20 = .ok (.iconst 0, 1) := by decide +kernel
theorem dX0_hasFailed_21 : decode cX0_hasFailed 21 = .ok (.ireturn, 1) := by decide +kernel
theorem dX0_isPackedAndBelowCeiling_0 : decode cX0_isPackedAndBelowCeiling 0 = .ok (.aload_n 0, 1) := by decide +kernel
theorem dX0_isPackedAndBelowCeiling_1 : decode cX0_isPackedAndBelowCeiling 1 = .ok (.getfield 27, 3) := by decide +kernel
theorem dX0_isPackedAndBelowCeiling_4 : decode cX0_isPackedAndBelowCeiling 4 = .ok (.ifCond .ne 15, 3) := by decide +kernel
theorem dX0_isPackedAndBelowCeiling_7 : decode cX0_isPackedAndBelowCeiling 7 = .ok (.iload_n 1, 1) := by decide +kernel
theorem dX0_isPackedAndBelowCeiling_8 : decode cX0_isPackedAndBelowCeiling 8 = .ok (.aload_n 0, 1) := by decide +kernel
theorem dX0_isPackedAndBelowCeiling_9 : decode cX0_isPackedAndBelowCeiling 9 = .ok (.getfield 21, 3) := by decide +kernel
theorem dX0_isPackedAndBelowCeiling_12 : decode cX0_isPackedAndBelowCeiling 12 = .ok (.if_icmp .gt 7, 3) := by decide +kernel
theorem dX0_isPackedAndBelowCeiling_15 : decode cX0_isPackedAndBelowCeiling 15 = .ok (.iconst 1, 1) := by decide +kernel
theorem dX0_isPackedAndBelowCeiling_16 : decode cX0_isPackedAndBelowCeiling 16 = .ok (.goto 4, 3) := by decide +kernel
theorem dX0_isPackedAndBelowCeiling_19 : decode cX0_isPackedAndBelowCeiling 19 = .ok (.iconst 0, 1) := by decide +kernel
theorem dX0_isPackedAndBelowCeiling_20 : decode cX0_isPackedAndBelowCeiling 20 = .ok (.ireturn, 1) := by decide +kernel
theorem dX0_pull_0 : decode cX0_pull 0 = .ok (.aload_n 0, 1) := by decide +kernel
theorem dX0_pull_1 : decode cX0_pull 1 = .ok (.getfield 9, 3) := by decide +kernel
theorem dX0_pull_4 : decode cX0_pull 4 = .ok (.i2l, 1) := by decide +kernel
theorem dX0_pull_5 : decode cX0_pull 5 = .ok (.iload_n 1, 1) := by decide +kernel
theorem dX0_pull_6 : decode cX0_pull 6 = .ok (.i2l, 1) := by decide +kernel
theorem dX0_pull_7 : decode cX0_pull 7 = .ok (.lmul, 1) := by decide +kernel
theorem dX0_pull_8 : decode cX0_pull 8 = .ok (.iload_n 2, 1) := by decide +kernel
theorem dX0_pull_9 : decode cX0_pull 9 = .ok (.i2l, 1) := by decide +kernel
theorem dX0_pull_10 : decode cX0_pull 10 = .ok (.lmul, 1) := by decide +kernel
theorem dX0_pull_11 : decode cX0_pull 11 = .ok (.iload_n 2, 1) := by decide +kernel
theorem dX0_pull_12 : decode cX0_pull 12 = .ok (.i2l, 1) := by decide +kernel
theorem dX0_pull_13 : decode cX0_pull 13 = .ok (.lmul, 1) := by decide +kernel
theorem dX0_pull_14 : decode cX0_pull 14 = .ok (.ldc2_w 37, 3) := by decide +kernel
theorem dX0_pull_17 : decode cX0_pull 17 = .ok (.ldiv, 1) := by decide +kernel
theorem dX0_pull_18 : decode cX0_pull 18 = .ok (.lreturn, 1) := by decide +kernel
theorem dX0_loadOfOneLine_0 : decode cX0_loadOfOneLine 0 = .ok (.aload_n 0, 1) := by decide +kernel
theorem dX0_loadOfOneLine_1 : decode cX0_loadOfOneLine 1 = .ok (.getfield 15, 3) := by decide +kernel
theorem dX0_loadOfOneLine_4 : decode cX0_loadOfOneLine 4 = .ok (.iload 4, 2) := by decide +kernel
theorem dX0_loadOfOneLine_6 : decode cX0_loadOfOneLine 6 = .ok (.isub, 1) := by decide +kernel
theorem dX0_loadOfOneLine_7 : decode cX0_loadOfOneLine 7 = .ok (.istore 5, 2) := by decide +kernel
theorem dX0_loadOfOneLine_9 : decode cX0_loadOfOneLine 9 = .ok (.iload 5, 2) := by decide +kernel
theorem dX0_loadOfOneLine_11 : decode cX0_loadOfOneLine 11 = .ok (.iconst 1, 1) := by decide +kernel
theorem dX0_loadOfOneLine_12 : decode cX0_loadOfOneLine 12 = .ok (.if_icmp .ge 5, 3) := by decide +kernel
theorem dX0_loadOfOneLine_15 : decode cX0_loadOfOneLine 15 = .ok (.lconst 0, 1) := by decide +kernel
theorem dX0_loadOfOneLine_16 : decode cX0_loadOfOneLine 16 = .ok (.lreturn, 1) := by decide +kernel
theorem dX0_loadOfOneLine_17 : decode cX0_loadOfOneLine 17 = .ok (.iload_n 3, 1) := by decide +kernel
theorem dX0_loadOfOneLine_18 : decode cX0_loadOfOneLine 18 = .ok (.ifCond .ge 8, 3) := by decide +kernel
theorem dX0_loadOfOneLine_21 : decode cX0_loadOfOneLine 21 = .ok (.iload_n 3, 1) := by decide +kernel
theorem dX0_loadOfOneLine_22 : decode cX0_loadOfOneLine 22 = .ok (.ineg, 1) := by decide +kernel
theorem dX0_loadOfOneLine_23 : decode cX0_loadOfOneLine 23 = .ok (.goto 4, 3) := by decide +kernel
theorem dX0_loadOfOneLine_26 : decode cX0_loadOfOneLine 26 = .ok (.iload_n 3, 1) := by decide +kernel
theorem dX0_loadOfOneLine_27 : decode cX0_loadOfOneLine 27 = .ok (.istore 6, 2) := by decide +kernel
theorem dX0_loadOfOneLine_29 : decode cX0_loadOfOneLine 29 = .ok (.lload_n 1, 1) := by decide +kernel
theorem dX0_loadOfOneLine_30 : decode cX0_loadOfOneLine 30 = .ok (.bipush 100, 2) := by decide +kernel
theorem dX0_loadOfOneLine_32 : decode cX0_loadOfOneLine 32 = .ok (.iconst 5, 1) := by decide +kernel
theorem dX0_loadOfOneLine_33 : decode cX0_loadOfOneLine 33 = .ok (.iload 6, 2) := by decide +kernel
theorem dX0_loadOfOneLine_35 : decode cX0_loadOfOneLine 35 = .ok (.imul, 1) := by decide +kernel
theorem dX0_loadOfOneLine_36 : decode cX0_loadOfOneLine 36 = .ok (.iadd, 1) := by decide +kernel
theorem dX0_loadOfOneLine_37 : decode cX0_loadOfOneLine 37 = .ok (.i2l, 1) := by decide +kernel
theorem dX0_loadOfOneLine_38 : decode cX0_loadOfOneLine 38 = .ok (.lmul, 1) := by decide +kernel
theorem dX0_loadOfOneLine_39 : decode cX0_loadOfOneLine 39 = .ok (.ldc2_w 39, 3) := by decide +kernel
theorem dX0_loadOfOneLine_42 : decode cX0_loadOfOneLine 42 = .ok (.ldiv, 1) := by decide +kernel
theorem dX0_loadOfOneLine_43 : decode cX0_loadOfOneLine 43 = .ok (.lstore 7, 2) := by decide +kernel
theorem dX0_loadOfOneLine_45 : decode cX0_loadOfOneLine 45 = .ok (.lload 7, 2) := by decide +kernel
theorem dX0_loadOfOneLine_47 : decode cX0_loadOfOneLine 47 = .ok (.iload 5, 2) := by decide +kernel
theorem dX0_loadOfOneLine_49 : decode cX0_loadOfOneLine 49 = .ok (.i2l, 1) := by decide +kernel
theorem dX0_loadOfOneLine_50 : decode cX0_loadOfOneLine 50 = .ok (.ladd, 1) := by decide +kernel
theorem dX0_loadOfOneLine_51 : decode cX0_loadOfOneLine 51 = .ok (.lconst 1, 1) := by decide +kernel
theorem dX0_loadOfOneLine_52 : decode cX0_loadOfOneLine 52 = .ok (.lsub, 1) := by decide +kernel
theorem dX0_loadOfOneLine_53 : decode cX0_loadOfOneLine 53 = .ok (.iload 5, 2) := by decide +kernel
theorem dX0_loadOfOneLine_55 : decode cX0_loadOfOneLine 55 = .ok (.i2l, 1) := by decide +kernel
theorem dX0_loadOfOneLine_56 : decode cX0_loadOfOneLine 56 = .ok (.ldiv, 1) := by decide +kernel
theorem dX0_loadOfOneLine_57 : decode cX0_loadOfOneLine 57 = .ok (.lreturn, 1) := by decide +kernel
theorem dX0_linesThatTear_0 : decode cX0_linesThatTear 0 = .ok (.aload_n 0, 1) := by decide +kernel
theorem dX0_linesThatTear_1 : decode cX0_linesThatTear 1 = .ok (.getfield 34, 3) := by decide +kernel
theorem dX0_linesThatTear_4 : decode cX0_linesThatTear 4 = .ok (.istore 5, 2) := by decide +kernel
theorem dX0_linesThatTear_6 : decode cX0_linesThatTear 6 = .ok (.iconst (-1), 1) := by decide +kernel
theorem dX0_linesThatTear_7 : decode cX0_linesThatTear 7 = .ok (.istore 6, 2) := by decide +kernel
theorem dX0_linesThatTear_9 : decode cX0_linesThatTear 9 = .ok (.iload 5, 2) := by decide +kernel
theorem dX0_linesThatTear_11 : decode cX0_linesThatTear 11 = .ok (.iload 6, 2) := by decide +kernel
theorem dX0_linesThatTear_13 : decode cX0_linesThatTear 13 = .ok (.if_icmp .le 68, 3) := by decide +kernel
theorem dX0_linesThatTear_16 : decode cX0_linesThatTear 16 = .ok (.iload 5, 2) := by decide +kernel
theorem dX0_linesThatTear_18 : decode cX0_linesThatTear 18 = .ok (.aload_n 0, 1) := by decide +kernel
theorem dX0_linesThatTear_19 : decode cX0_linesThatTear 19 = .ok (.getfield 15, 3) := by decide +kernel
theorem dX0_linesThatTear_22 : decode cX0_linesThatTear 22 = .ok (.if_icmp .ge 59, 3) := by decide +kernel
theorem dX0_linesThatTear_25 : decode cX0_linesThatTear 25 = .ok (.iload 5, 2) := by decide +kernel
theorem dX0_linesThatTear_27 : decode cX0_linesThatTear 27 = .ok (.istore 6, 2) := by decide +kernel
theorem dX0_linesThatTear_29 : decode cX0_linesThatTear 29 = .ok (.aload_n 0, 1) := by decide +kernel
theorem dX0_linesThatTear_30 : decode cX0_linesThatTear 30 = .ok (.lload_n 1, 1) := by decide +kernel
theorem dX0_linesThatTear_31 : decode cX0_linesThatTear 31 = .ok (.iload_n 3, 1) := by decide +kernel
theorem dX0_linesThatTear_32 : decode cX0_linesThatTear 32 = .ok (.iload 5, 2) := by decide +kernel
theorem dX0_linesThatTear_34 : decode cX0_linesThatTear 34 = .ok (.invokevirtual 41, 3) := by decide +kernel
theorem dX0_linesThatTear_37 : decode cX0_linesThatTear 37 = .ok (.lstore 7, 2) := by decide +kernel
theorem dX0_linesThatTear_39 : decode cX0_linesThatTear 39 = .ok (.iload 5, 2) := by decide +kernel
theorem dX0_linesThatTear_41 : decode cX0_linesThatTear 41 = .ok (.aload_n 0, 1) := by decide +kernel
theorem dX0_linesThatTear_42 : decode cX0_linesThatTear 42 = .ok (.getfield 15, 3) := by decide +kernel
theorem dX0_linesThatTear_45 : decode cX0_linesThatTear 45 = .ok (.if_icmp .ge 33, 3) := by decide +kernel
theorem dX0_linesThatTear_48 : decode cX0_linesThatTear 48 = .ok (.aload_n 0, 1) := by decide +kernel
theorem dX0_linesThatTear_49 : decode cX0_linesThatTear 49 = .ok (.iload 5, 2) := by decide +kernel
theorem dX0_linesThatTear_51 : decode cX0_linesThatTear 51 = .ok (.invokevirtual 45, 3) := by decide +kernel
theorem dX0_linesThatTear_54 : decode cX0_linesThatTear 54 = .ok (.sipush 1000, 3) := by decide +kernel
theorem dX0_linesThatTear_57 : decode cX0_linesThatTear 57 = .ok (.iload 4, 2) := by decide +kernel
theorem dX0_linesThatTear_59 : decode cX0_linesThatTear 59 = .ok (.isub, 1) := by decide +kernel
theorem dX0_linesThatTear_60 : decode cX0_linesThatTear 60 = .ok (.imul, 1) := by decide +kernel
theorem dX0_linesThatTear_61 : decode cX0_linesThatTear 61 = .ok (.sipush 1000, 3) := by decide +kernel
theorem dX0_linesThatTear_64 : decode cX0_linesThatTear 64 = .ok (.idiv, 1) := by decide +kernel
theorem dX0_linesThatTear_65 : decode cX0_linesThatTear 65 = .ok (.i2l, 1) := by decide +kernel
theorem dX0_linesThatTear_66 : decode cX0_linesThatTear 66 = .ok (.lload 7, 2) := by decide +kernel
theorem dX0_linesThatTear_68 : decode cX0_linesThatTear 68 = .ok (.lcmp, 1) := by decide +kernel
theorem dX0_linesThatTear_69 : decode cX0_linesThatTear 69 = .ok (.ifCond .ge 9, 3) := by decide +kernel
theorem dX0_linesThatTear_72 : decode cX0_linesThatTear 72 = .ok (.iinc 5 1, 3) := by decide +kernel
theorem dX0_linesThatTear_75 : decode cX0_linesThatTear 75 = .ok (.goto (-36), 3) := by decide +kernel
theorem dX0_linesThatTear_78 : decode cX0_linesThatTear 78 = .ok (.goto (-69), 3) := by decide +kernel
theorem dX0_linesThatTear_81 : decode cX0_linesThatTear 81 = .ok (.iload 5, 2) := by decide +kernel
theorem dX0_linesThatTear_83 : decode cX0_linesThatTear 83 = .ok (.aload_n 0, 1) := by decide +kernel
theorem dX0_linesThatTear_84 : decode cX0_linesThatTear 84 = .ok (.getfield 34, 3) := by decide +kernel
theorem dX0_linesThatTear_87 : decode cX0_linesThatTear 87 = .ok (.isub, 1) := by decide +kernel
theorem dX0_linesThatTear_88 : decode cX0_linesThatTear 88 = .ok (.ireturn, 1) := by decide +kernel
theorem dX0_letter_0 : decode cX0_letter 0 = .ok (.aload_n 0, 1) := by decide +kernel
theorem dX0_letter_1 : decode cX0_letter 1 = .ok (.getfield 27, 3) := by decide +kernel
theorem dX0_letter_4 : decode cX0_letter 4 = .ok (.tableswitch 44 0 3 #[32, 35, 38, 41], 32) := by decide +kernel
theorem dX0_letter_36 : decode cX0_letter 36 = .ok (.bipush 80, 2) := by decide +kernel
theorem dX0_letter_38 : decode cX0_letter 38 = .ok (.ireturn, 1) := by decide +kernel
theorem dX0_letter_39 : decode cX0_letter 39 = .ok (.bipush 79, 2) := by decide +kernel
theorem dX0_letter_41 : decode cX0_letter 41 = .ok (.ireturn, 1) := by decide +kernel
theorem dX0_letter_42 : decode cX0_letter 42 = .ok (.bipush 84, 2) := by decide +kernel
theorem dX0_letter_44 : decode cX0_letter 44 = .ok (.ireturn, 1) := by decide +kernel
theorem dX0_letter_45 : decode cX0_letter 45 = .ok (.bipush 74, 2) := by decide +kernel
theorem dX0_letter_47 : decode cX0_letter 47 = .ok (.ireturn, 1) := by decide +kernel
theorem dX0_letter_48 : decode cX0_letter 48 = .ok (.bipush 67, 2) := by decide +kernel
theorem dX0_letter_50 : decode cX0_letter 50 = .ok (.ireturn, 1) := by decide +kernel
theorem dX1_init_0 : decode cX1_init 0 = .ok (.aload_n 0, 1) := by decide +kernel
theorem dX1_init_1 : decode cX1_init 1 = .ok (.invokespecial 1, 3) := by decide +kernel
theorem dX1_init_4 : decode cX1_init 4 = .ok (.aload_n 0, 1) := by decide +kernel
theorem dX1_init_5 : decode cX1_init 5 = .ok (.bipush 120, 2) := by decide +kernel
theorem dX1_init_7 : decode cX1_init 7 = .ok (.newarray .int, 2) := by decide +kernel
theorem dX1_init_9 : decode cX1_init 9 = .ok (.putfield 9, 3) := by decide +kernel
theorem dX1_init_12 : decode cX1_init 12 = .ok (.return_, 1) := by decide +kernel
theorem dX1_copyFrom_0 : decode cX1_copyFrom 0 = .ok (.aload_n 1, 1) := by decide +kernel
theorem dX1_copyFrom_1 : decode cX1_copyFrom 1 = .ok (.getfield 9, 3) := by decide +kernel
theorem dX1_copyFrom_4 : decode cX1_copyFrom 4 = .ok (.iconst 0, 1) := by decide +kernel
theorem dX1_copyFrom_5 : decode cX1_copyFrom 5 = .ok (.aload_n 0, 1) := by decide +kernel
theorem dX1_copyFrom_6 : decode cX1_copyFrom 6 = .ok (.getfield 9, 3) := by decide +kernel
theorem dX1_copyFrom_9 : decode cX1_copyFrom 9 = .ok (.iconst 0, 1) := by decide +kernel
theorem dX1_copyFrom_10 : decode cX1_copyFrom 10 = .ok (.bipush 120, 2) := by decide +kernel
theorem dX1_copyFrom_12 : decode cX1_copyFrom 12 = .ok (.invokestatic 13, 3) := by decide +kernel
theorem dX1_copyFrom_15 : decode cX1_copyFrom 15 = .ok (.aload_n 0, 1) := by decide +kernel
theorem dX1_copyFrom_16 : decode cX1_copyFrom 16 = .ok (.aload_n 1, 1) := by decide +kernel
theorem dX1_copyFrom_17 : decode cX1_copyFrom 17 = .ok (.getfield 19, 3) := by decide +kernel
theorem dX1_copyFrom_20 : decode cX1_copyFrom 20 = .ok (.putfield 19, 3) := by decide +kernel
theorem dX1_copyFrom_23 : decode cX1_copyFrom 23 = .ok (.aload_n 0, 1) := by decide +kernel
theorem dX1_copyFrom_24 : decode cX1_copyFrom 24 = .ok (.aload_n 1, 1) := by decide +kernel
theorem dX1_copyFrom_25 : decode cX1_copyFrom 25 = .ok (.getfield 23, 3) := by decide +kernel
theorem dX1_copyFrom_28 : decode cX1_copyFrom 28 = .ok (.putfield 23, 3) := by decide +kernel
theorem dX1_copyFrom_31 : decode cX1_copyFrom 31 = .ok (.return_, 1) := by decide +kernel
theorem dX1_forget_0 : decode cX1_forget 0 = .ok (.aload_n 0, 1) := by decide +kernel
theorem dX1_forget_1 : decode cX1_forget 1 = .ok (.iconst 0, 1) := by decide +kernel
theorem dX1_forget_2 : decode cX1_forget 2 = .ok (.putfield 19, 3) := by decide +kernel
theorem dX1_forget_5 : decode cX1_forget 5 = .ok (.aload_n 0, 1) := by decide +kernel
theorem dX1_forget_6 : decode cX1_forget 6 = .ok (.iconst 0, 1) := by decide +kernel
theorem dX1_forget_7 : decode cX1_forget 7 = .ok (.putfield 23, 3) := by decide +kernel
theorem dX1_forget_10 : decode cX1_forget 10 = .ok (.return_, 1) := by decide +kernel
theorem dX1_keep_0 : decode cX1_keep 0 = .ok (.aload_n 0, 1) := by decide +kernel
theorem dX1_keep_1 : decode cX1_keep 1 = .ok (.getfield 19, 3) := by decide +kernel
theorem dX1_keep_4 : decode cX1_keep 4 = .ok (.aload_n 0, 1) := by decide +kernel
theorem dX1_keep_5 : decode cX1_keep 5 = .ok (.getfield 23, 3) := by decide +kernel
theorem dX1_keep_8 : decode cX1_keep 8 = .ok (.iadd, 1) := by decide +kernel
theorem dX1_keep_9 : decode cX1_keep 9 = .ok (.bipush 30, 2) := by decide +kernel
theorem dX1_keep_11 : decode cX1_keep 11 = .ok (.irem, 1) := by decide +kernel
theorem dX1_keep_12 : decode cX1_keep 12 = .ok (.iconst 4, 1) := by decide +kernel
theorem dX1_keep_13 : decode cX1_keep 13 = .ok (.imul, 1) := by decide +kernel
theorem dX1_keep_14 : decode cX1_keep 14 = .ok (.istore 5, 2) := by decide +kernel
theorem dX1_keep_16 : decode cX1_keep 16 = .ok (.aload_n 0, 1) := by decide +kernel
theorem dX1_keep_17 : decode cX1_keep 17 = .ok (.getfield 9, 3) := by decide +kernel
theorem dX1_keep_20 : decode cX1_keep 20 = .ok (.iload 5, 2) := by decide +kernel
theorem dX1_keep_22 : decode cX1_keep 22 = .ok (.iload_n 1, 1) := by decide +kernel
theorem dX1_keep_23 : decode cX1_keep 23 = .ok (.iastore, 1) := by decide +kernel
theorem dX1_keep_24 : decode cX1_keep 24 = .ok (.aload_n 0, 1) := by decide +kernel
theorem dX1_keep_25 : decode cX1_keep 25 = .ok (.getfield 9, 3) := by decide +kernel
theorem dX1_keep_28 : decode cX1_keep 28 = .ok (.iload 5, 2) := by decide +kernel
theorem dX1_keep_30 : decode cX1_keep 30 = .ok (.iconst 1, 1) := by decide +kernel
theorem dX1_keep_31 : decode cX1_keep 31 = .ok (.iadd, 1) := by decide +kernel
theorem dX1_keep_32 : decode cX1_keep 32 = .ok (.iload_n 2, 1) := by decide +kernel
theorem dX1_keep_33 : decode cX1_keep 33 = .ok (.iastore, 1) := by decide +kernel
theorem dX1_keep_34 : decode cX1_keep 34 = .ok (.aload_n 0, 1) := by decide +kernel
theorem dX1_keep_35 : decode cX1_keep 35 = .ok (.getfield 9, 3) := by decide +kernel
theorem dX1_keep_38 : decode cX1_keep 38 = .ok (.iload 5, 2) := by decide +kernel
theorem dX1_keep_40 : decode cX1_keep 40 = .ok (.iconst 2, 1) := by decide +kernel
theorem dX1_keep_41 : decode cX1_keep 41 = .ok (.iadd, 1) := by decide +kernel
theorem dX1_keep_42 : decode cX1_keep 42 = .ok (.iload_n 3, 1) := by decide +kernel
theorem dX1_keep_43 : decode cX1_keep 43 = .ok (.iastore, 1) := by decide +kernel
theorem dX1_keep_44 : decode cX1_keep 44 = .ok (.aload_n 0, 1) := by decide +kernel
theorem dX1_keep_45 : decode cX1_keep 45 = .ok (.getfield 9, 3) := by decide +kernel
theorem dX1_keep_48 : decode cX1_keep 48 = .ok (.iload 5, 2) := by decide +kernel
theorem dX1_keep_50 : decode cX1_keep 50 = .ok (.iconst 3, 1) := by decide +kernel
theorem dX1_keep_51 : decode cX1_keep 51 = .ok (.iadd, 1) := by decide +kernel
theorem dX1_keep_52 : decode cX1_keep 52 = .ok (.iload 4, 2) := by decide +kernel
theorem dX1_keep_54 : decode cX1_keep 54 = .ok (.iastore, 1) := by decide +kernel
theorem dX1_keep_55 : decode cX1_keep 55 = .ok (.aload_n 0, 1) := by decide +kernel
theorem dX1_keep_56 : decode cX1_keep 56 = .ok (.getfield 23, 3) := by decide +kernel
theorem dX1_keep_59 : decode cX1_keep 59 = .ok (.bipush 30, 2) := by decide +kernel
theorem dX1_keep_61 : decode cX1_keep 61 = .ok (.if_icmp .ge 16, 3) := by decide +kernel
theorem dX1_keep_64 : decode cX1_keep 64 = .ok (.aload_n 0, 1) := by decide +kernel
theorem dX1_keep_65 : decode cX1_keep 65 = .ok (.dup, 1) := by decide +kernel
theorem dX1_keep_66 : decode cX1_keep 66 = .ok (.getfield 23, 3) := by decide +kernel
theorem dX1_keep_69 : decode cX1_keep 69 = .ok (.iconst 1, 1) := by decide +kernel
theorem dX1_keep_70 : decode cX1_keep 70 = .ok (.iadd, 1) := by decide +kernel
theorem dX1_keep_71 : decode cX1_keep 71 = .ok (.putfield 23, 3) := by decide +kernel
theorem dX1_keep_74 : decode cX1_keep 74 = .ok (.goto 16, 3) := by decide +kernel
theorem dX1_keep_77 : decode cX1_keep 77 = .ok (.aload_n 0, 1) := by decide +kernel
theorem dX1_keep_78 : decode cX1_keep 78 = .ok (.aload_n 0, 1) := by decide +kernel
theorem dX1_keep_79 : decode cX1_keep 79 = .ok (.getfield 19, 3) := by decide +kernel
theorem dX1_keep_82 : decode cX1_keep 82 = .ok (.iconst 1, 1) := by decide +kernel
theorem dX1_keep_83 : decode cX1_keep 83 = .ok (.iadd, 1) := by decide +kernel
theorem dX1_keep_84 : decode cX1_keep 84 = .ok (.bipush 30, 2) := by decide +kernel
theorem dX1_keep_86 : decode cX1_keep 86 = .ok (.irem, 1) := by decide +kernel
theorem dX1_keep_87 : decode cX1_keep 87 = .ok (.putfield 19, 3) := by decide +kernel
theorem dX1_keep_90 : decode cX1_keep 90 = .ok (.return_, 1) := by decide +kernel
theorem dX1_partOf_0 : decode cX1_partOf 0 = .ok (.aload_n 0, 1) := by decide +kernel
theorem dX1_partOf_1 : decode cX1_partOf 1 = .ok (.getfield 9, 3) := by decide +kernel
theorem dX1_partOf_4 : decode cX1_partOf 4 = .ok (.aload_n 0, 1) := by decide +kernel
theorem dX1_partOf_5 : decode cX1_partOf 5 = .ok (.getfield 19, 3) := by decide +kernel
theorem dX1_partOf_8 : decode cX1_partOf 8 = .ok (.iload_n 1, 1) := by decide +kernel
theorem dX1_partOf_9 : decode cX1_partOf 9 = .ok (.iadd, 1) := by decide +kernel
theorem dX1_partOf_10 : decode cX1_partOf 10 = .ok (.bipush 30, 2) := by decide +kernel
theorem dX1_partOf_12 : decode cX1_partOf 12 = .ok (.irem, 1) := by decide +kernel
theorem dX1_partOf_13 : decode cX1_partOf 13 = .ok (.iconst 4, 1) := by decide +kernel
theorem dX1_partOf_14 : decode cX1_partOf 14 = .ok (.imul, 1) := by decide +kernel
theorem dX1_partOf_15 : decode cX1_partOf 15 = .ok (.iload_n 2, 1) := by decide +kernel
theorem dX1_partOf_16 : decode cX1_partOf 16 = .ok (.iadd, 1) := by decide +kernel
theorem dX1_partOf_17 : decode cX1_partOf 17 = .ok (.iaload, 1) := by decide +kernel
theorem dX1_partOf_18 : decode cX1_partOf 18 = .ok (.ireturn, 1) := by decide +kernel
theorem dX2_init_0 : decode cX2_init 0 = .ok (.aload_n 0, 1) := by decide +kernel
theorem dX2_init_1 : decode cX2_init 1 = .ok (.invokespecial 3, 3) := by decide +kernel
theorem dX2_init_4 : decode cX2_init 4 = .ok (.aload_n 0, 1) := by decide +kernel
theorem dX2_init_5 : decode cX2_init 5 = .ok (.bipush 8, 2) := by decide +kernel
theorem dX2_init_7 : decode cX2_init 7 = .ok (.newarray .int, 2) := by decide +kernel
theorem dX2_init_9 : decode cX2_init 9 = .ok (.putfield 11, 3) := by decide +kernel
theorem dX2_init_12 : decode cX2_init 12 = .ok (.aload_n 0, 1) := by decide +kernel
theorem dX2_init_13 : decode cX2_init 13 = .ok (.bipush 8, 2) := by decide +kernel
theorem dX2_init_15 : decode cX2_init 15 = .ok (.newarray .int, 2) := by decide +kernel
theorem dX2_init_17 : decode cX2_init 17 = .ok (.putfield 15, 3) := by decide +kernel
theorem dX2_init_20 : decode cX2_init 20 = .ok (.return_, 1) := by decide +kernel
theorem dX2_copyFrom_0 : decode cX2_copyFrom 0 = .ok (.aload_n 1, 1) := by decide +kernel
theorem dX2_copyFrom_1 : decode cX2_copyFrom 1 = .ok (.getfield 11, 3) := by decide +kernel
theorem dX2_copyFrom_4 : decode cX2_copyFrom 4 = .ok (.iconst 0, 1) := by decide +kernel
theorem dX2_copyFrom_5 : decode cX2_copyFrom 5 = .ok (.aload_n 0, 1) := by decide +kernel
theorem dX2_copyFrom_6 : decode cX2_copyFrom 6 = .ok (.getfield 11, 3) := by decide +kernel
theorem dX2_copyFrom_9 : decode cX2_copyFrom 9 = .ok (.iconst 0, 1) := by decide +kernel
theorem dX2_copyFrom_10 : decode cX2_copyFrom 10 = .ok (.bipush 8, 2) := by decide +kernel
theorem dX2_copyFrom_12 : decode cX2_copyFrom 12 = .ok (.invokestatic 18, 3) := by decide +kernel
theorem dX2_copyFrom_15 : decode cX2_copyFrom 15 = .ok (.aload_n 1, 1) := by decide +kernel
theorem dX2_copyFrom_16 : decode cX2_copyFrom 16 = .ok (.getfield 15, 3) := by decide +kernel
theorem dX2_copyFrom_19 : decode cX2_copyFrom 19 = .ok (.iconst 0, 1) := by decide +kernel
theorem dX2_copyFrom_20 : decode cX2_copyFrom 20 = .ok (.aload_n 0, 1) := by decide +kernel
theorem dX2_copyFrom_21 : decode cX2_copyFrom 21 = .ok (.getfield 15, 3) := by decide +kernel
theorem dX2_copyFrom_24 : decode cX2_copyFrom 24 = .ok (.iconst 0, 1) := by decide +kernel
theorem dX2_copyFrom_25 : decode cX2_copyFrom 25 = .ok (.bipush 8, 2) := by decide +kernel
theorem dX2_copyFrom_27 : decode cX2_copyFrom 27 = .ok (.invokestatic 18, 3) := by decide +kernel
theorem dX2_copyFrom_30 : decode cX2_copyFrom 30 = .ok (.aload_n 0, 1) := by decide +kernel
theorem dX2_copyFrom_31 : decode cX2_copyFrom 31 = .ok (.aload_n 1, 1) := by decide +kernel
theorem dX2_copyFrom_32 : decode cX2_copyFrom 32 = .ok (.getfield 24, 3) := by decide +kernel
theorem dX2_copyFrom_35 : decode cX2_copyFrom 35 = .ok (.putfield 24, 3) := by decide +kernel
theorem dX2_copyFrom_38 : decode cX2_copyFrom 38 = .ok (.return_, 1) := by decide +kernel
theorem dX2_placeOf_0 : decode cX2_placeOf 0 = .ok (.iconst 0, 1) := by decide +kernel
theorem dX2_placeOf_1 : decode cX2_placeOf 1 = .ok (.istore_n 2, 1) := by decide +kernel
theorem dX2_placeOf_2 : decode cX2_placeOf 2 = .ok (.iload_n 2, 1) := by decide +kernel
theorem dX2_placeOf_3 : decode cX2_placeOf 3 = .ok (.aload_n 0, 1) := by decide +kernel
theorem dX2_placeOf_4 : decode cX2_placeOf 4 = .ok (.getfield 24, 3) := by decide +kernel
theorem dX2_placeOf_7 : decode cX2_placeOf 7 = .ok (.if_icmp .ge 21, 3) := by decide +kernel
theorem dX2_placeOf_10 : decode cX2_placeOf 10 = .ok (.aload_n 0, 1) := by decide +kernel
theorem dX2_placeOf_11 : decode cX2_placeOf 11 = .ok (.getfield 11, 3) := by decide +kernel
theorem dX2_placeOf_14 : decode cX2_placeOf 14 = .ok (.iload_n 2, 1) := by decide +kernel
theorem dX2_placeOf_15 : decode cX2_placeOf 15 = .ok (.iaload, 1) := by decide +kernel
theorem dX2_placeOf_16 : decode cX2_placeOf 16 = .ok (.iload_n 1, 1) := by decide +kernel
theorem dX2_placeOf_17 : decode cX2_placeOf 17 = .ok (.if_icmp .ne 5, 3) := by decide +kernel
theorem dX2_placeOf_20 : decode cX2_placeOf 20 = .ok (.iload_n 2, 1) := by decide +kernel
theorem dX2_placeOf_21 : decode cX2_placeOf 21 = .ok (.ireturn, 1) := by decide +kernel
theorem dX2_placeOf_22 : decode cX2_placeOf 22 = .ok (.iinc 2 1, 3) := by decide +kernel
theorem dX2_placeOf_25 : decode cX2_placeOf 25 = .ok (.goto (-23), 3) := by decide +kernel
theorem dX2_placeOf_28 : decode cX2_placeOf 28 = .ok (.iconst (-1), 1) := by decide +kernel
theorem dX2_placeOf_29 : decode cX2_placeOf 29 = .ok (.ireturn, 1) := by decide +kernel
theorem dX2_hasPlaceFor_0 : decode cX2_hasPlaceFor 0 = .ok (.aload_n 0, 1) := by decide +kernel
theorem dX2_hasPlaceFor_1 : decode cX2_hasPlaceFor 1 = .ok (.getfield 24, 3) := by decide +kernel
theorem dX2_hasPlaceFor_4 : decode cX2_hasPlaceFor 4 = .ok (.bipush 8, 2) := by decide +kernel
theorem dX2_hasPlaceFor_6 : decode cX2_hasPlaceFor 6 = .ok (.if_icmp .lt 12, 3) := by decide +kernel
theorem dX2_hasPlaceFor_9 : decode cX2_hasPlaceFor 9 = .ok (.aload_n 0, 1) := by decide +kernel
theorem dX2_hasPlaceFor_10 : decode cX2_hasPlaceFor 10 = .ok (.iload_n 1, 1) := by decide +kernel
theorem dX2_hasPlaceFor_11 : decode cX2_hasPlaceFor 11 = .ok (.invokevirtual 28, 3) := by decide +kernel
theorem dX2_hasPlaceFor_14 : decode cX2_hasPlaceFor 14 = .ok (.iconst (-1), 1) := by decide +kernel
theorem dX2_hasPlaceFor_15 : decode cX2_hasPlaceFor 15 = .ok (.if_icmp .eq 7, 3) := by decide +kernel
theorem dX2_hasPlaceFor_18 : decode cX2_hasPlaceFor 18 = .ok (.iconst 1, 1) := by decide +kernel
theorem dX2_hasPlaceFor_19 : decode cX2_hasPlaceFor 19 = .ok (.goto 4, 3) := by decide +kernel
theorem dX2_hasPlaceFor_22 : decode cX2_hasPlaceFor 22 = .ok (.iconst 0, 1) := by decide +kernel
theorem dX2_hasPlaceFor_23 : decode cX2_hasPlaceFor 23 = .ok (.ireturn, 1) := by decide +kernel
theorem dX2_put_0 : decode cX2_put 0 = .ok (.aload_n 0, 1) := by decide +kernel
theorem dX2_put_1 : decode cX2_put 1 = .ok (.iload_n 1, 1) := by decide +kernel
theorem dX2_put_2 : decode cX2_put 2 = .ok (.invokevirtual 28, 3) := by decide +kernel
theorem dX2_put_5 : decode cX2_put 5 = .ok (.istore_n 3, 1) := by decide +kernel
theorem dX2_put_6 : decode cX2_put 6 = .ok (.iload_n 3, 1) := by decide +kernel
theorem dX2_put_7 : decode cX2_put 7 = .ok (.iconst (-1), 1) := by decide +kernel
theorem dX2_put_8 : decode cX2_put 8 = .ok (.if_icmp .ne 27, 3) := by decide +kernel
theorem dX2_put_11 : decode cX2_put 11 = .ok (.aload_n 0, 1) := by decide +kernel
theorem dX2_put_12 : decode cX2_put 12 = .ok (.getfield 24, 3) := by decide +kernel
theorem dX2_put_15 : decode cX2_put 15 = .ok (.bipush 8, 2) := by decide +kernel
theorem dX2_put_17 : decode cX2_put 17 = .ok (.if_icmp .ge 18, 3) := by decide +kernel
theorem dX2_put_20 : decode cX2_put 20 = .ok (.aload_n 0, 1) := by decide +kernel
theorem dX2_put_21 : decode cX2_put 21 = .ok (.getfield 24, 3) := by decide +kernel
theorem dX2_put_24 : decode cX2_put 24 = .ok (.istore_n 3, 1) := by decide +kernel
theorem dX2_put_25 : decode cX2_put 25 = .ok (.aload_n 0, 1) := by decide +kernel
theorem dX2_put_26 : decode cX2_put 26 = .ok (.dup, 1) := by decide +kernel
theorem dX2_put_27 : decode cX2_put 27 = .ok (.getfield 24, 3) := by decide +kernel
theorem dX2_put_30 : decode cX2_put 30 = .ok (.iconst 1, 1) := by decide +kernel
theorem dX2_put_31 : decode cX2_put 31 = .ok (.iadd, 1) := by decide +kernel
theorem dX2_put_32 : decode cX2_put 32 = .ok (.putfield 24, 3) := by decide +kernel
theorem dX2_put_35 : decode cX2_put 35 = .ok (.iload_n 3, 1) := by decide +kernel
theorem dX2_put_36 : decode cX2_put 36 = .ok (.iconst (-1), 1) := by decide +kernel
theorem dX2_put_37 : decode cX2_put 37 = .ok (.if_icmp .eq 17, 3) := by decide +kernel
theorem dX2_put_40 : decode cX2_put 40 = .ok (.aload_n 0, 1) := by decide +kernel
theorem dX2_put_41 : decode cX2_put 41 = .ok (.getfield 11, 3) := by decide +kernel
theorem dX2_put_44 : decode cX2_put 44 = .ok (.iload_n 3, 1) := by decide +kernel
theorem dX2_put_45 : decode cX2_put 45 = .ok (.iload_n 1, 1) := by decide +kernel
theorem dX2_put_46 : decode cX2_put 46 = .ok (.iastore, 1) := by decide +kernel
theorem dX2_put_47 : decode cX2_put 47 = .ok (.aload_n 0, 1) := by decide +kernel
theorem dX2_put_48 : decode cX2_put 48 = .ok (.getfield 15, 3) := by decide +kernel
theorem dX2_put_51 : decode cX2_put 51 = .ok (.iload_n 3, 1) := by decide +kernel
theorem dX2_put_52 : decode cX2_put 52 = .ok (.iload_n 2, 1) := by decide +kernel
theorem dX2_put_53 : decode cX2_put 53 = .ok (.iastore, 1) := by decide +kernel
theorem dX2_put_54 : decode cX2_put 54 = .ok (.return_, 1) := by decide +kernel
theorem dX2_valueAtOrAbove_0 : decode cX2_valueAtOrAbove 0 = .ok (.iconst (-1), 1) := by decide +kernel
theorem dX2_valueAtOrAbove_1 : decode cX2_valueAtOrAbove 1 = .ok (.istore_n 3, 1) := by decide +kernel
theorem dX2_valueAtOrAbove_2 : decode cX2_valueAtOrAbove 2 = .ok (.iconst 0, 1) := by decide +kernel
theorem dX2_valueAtOrAbove_3 : decode cX2_valueAtOrAbove 3 = .ok (.istore 4, 2) := by decide +kernel
theorem dX2_valueAtOrAbove_5 : decode cX2_valueAtOrAbove 5 = .ok (.iload 4, 2) := by decide +kernel
theorem dX2_valueAtOrAbove_7 : decode cX2_valueAtOrAbove 7 = .ok (.aload_n 0, 1) := by decide +kernel
theorem dX2_valueAtOrAbove_8 : decode cX2_valueAtOrAbove 8 = .ok (.getfield 24, 3) := by decide +kernel
theorem dX2_valueAtOrAbove_11 : decode cX2_valueAtOrAbove 11 = .ok (.if_icmp .ge 44, 3) := by decide +kernel
theorem dX2_valueAtOrAbove_14 : decode cX2_valueAtOrAbove 14 = .ok (.aload_n 0, 1) := by decide +kernel
theorem dX2_valueAtOrAbove_15 : decode cX2_valueAtOrAbove 15 = .ok (.getfield 11, 3) := by decide +kernel
theorem dX2_valueAtOrAbove_18 : decode cX2_valueAtOrAbove 18 = .ok (.iload 4, 2) := by decide +kernel
theorem dX2_valueAtOrAbove_20 : decode cX2_valueAtOrAbove 20 = .ok (.iaload, 1) := by decide +kernel
theorem dX2_valueAtOrAbove_21 : decode cX2_valueAtOrAbove 21 = .ok (.iload_n 1, 1) := by decide +kernel
theorem dX2_valueAtOrAbove_22 : decode cX2_valueAtOrAbove 22 = .ok (.if_icmp .lt 27, 3) := by decide +kernel
theorem dX2_valueAtOrAbove_25 : decode cX2_valueAtOrAbove 25 = .ok (.iload_n 3, 1) := by decide +kernel
theorem dX2_valueAtOrAbove_26 : decode cX2_valueAtOrAbove 26 = .ok (.iconst (-1), 1) := by decide +kernel
theorem dX2_valueAtOrAbove_27 : decode cX2_valueAtOrAbove 27 = .ok (.if_icmp .eq 19, 3) := by decide +kernel
theorem dX2_valueAtOrAbove_30 : decode cX2_valueAtOrAbove 30 = .ok (.aload_n 0, 1) := by decide +kernel
theorem dX2_valueAtOrAbove_31 : decode cX2_valueAtOrAbove 31 = .ok (.getfield 11, 3) := by decide +kernel
theorem dX2_valueAtOrAbove_34 : decode cX2_valueAtOrAbove 34 = .ok (.iload 4, 2) := by decide +kernel
theorem dX2_valueAtOrAbove_36 : decode cX2_valueAtOrAbove 36 = .ok (.iaload, 1) := by decide +kernel
theorem dX2_valueAtOrAbove_37 : decode cX2_valueAtOrAbove 37 = .ok (.aload_n 0, 1) := by decide +kernel
theorem dX2_valueAtOrAbove_38 : decode cX2_valueAtOrAbove 38 = .ok (.getfield 11, 3) := by decide +kernel
theorem dX2_valueAtOrAbove_41 : decode cX2_valueAtOrAbove 41 = .ok (.iload_n 3, 1) := by decide +kernel
theorem dX2_valueAtOrAbove_42 : decode cX2_valueAtOrAbove 42 = .ok (.iaload, 1) := by decide +kernel
theorem dX2_valueAtOrAbove_43 : decode cX2_valueAtOrAbove 43 = .ok (.if_icmp .ge 6, 3) := by decide +kernel
theorem dX2_valueAtOrAbove_46 : decode cX2_valueAtOrAbove 46 = .ok (.iload 4, 2) := by decide +kernel
theorem dX2_valueAtOrAbove_48 : decode cX2_valueAtOrAbove 48 = .ok (.istore_n 3, 1) := by decide +kernel
theorem dX2_valueAtOrAbove_49 : decode cX2_valueAtOrAbove 49 = .ok (.iinc 4 1, 3) := by decide +kernel
theorem dX2_valueAtOrAbove_52 : decode cX2_valueAtOrAbove 52 = .ok (.goto (-47), 3) := by decide +kernel
theorem dX2_valueAtOrAbove_55 : decode cX2_valueAtOrAbove 55 = .ok (.iload_n 3, 1) := by decide +kernel
theorem dX2_valueAtOrAbove_56 : decode cX2_valueAtOrAbove 56 = .ok (.iconst (-1), 1) := by decide +kernel
theorem dX2_valueAtOrAbove_57 : decode cX2_valueAtOrAbove 57 = .ok (.if_icmp .ne 7, 3) := by decide +kernel
theorem dX2_valueAtOrAbove_60 : decode cX2_valueAtOrAbove 60 = .ok (.iload_n 2, 1) := by decide +kernel
theorem dX2_valueAtOrAbove_61 : decode cX2_valueAtOrAbove 61 = .ok (.goto 9, 3) := by decide +kernel
theorem dX2_valueAtOrAbove_64 : decode cX2_valueAtOrAbove 64 = .ok (.aload_n 0, 1) := by decide +kernel
theorem dX2_valueAtOrAbove_65 : decode cX2_valueAtOrAbove 65 = .ok (.getfield 15, 3) := by decide +kernel
theorem dX2_valueAtOrAbove_68 : decode cX2_valueAtOrAbove 68 = .ok (.iload_n 3, 1) := by decide +kernel
theorem dX2_valueAtOrAbove_69 : decode cX2_valueAtOrAbove 69 = .ok (.iaload, 1) := by decide +kernel
theorem dX2_valueAtOrAbove_70 : decode cX2_valueAtOrAbove 70 = .ok (.ireturn, 1) := by decide +kernel
theorem dX2_valueAtOrBelow_0 : decode cX2_valueAtOrBelow 0 = .ok (.iconst (-1), 1) := by decide +kernel
theorem dX2_valueAtOrBelow_1 : decode cX2_valueAtOrBelow 1 = .ok (.istore_n 3, 1) := by decide +kernel
theorem dX2_valueAtOrBelow_2 : decode cX2_valueAtOrBelow 2 = .ok (.iconst 0, 1) := by decide +kernel
theorem dX2_valueAtOrBelow_3 : decode cX2_valueAtOrBelow 3 = .ok (.istore 4, 2) := by decide +kernel
theorem dX2_valueAtOrBelow_5 : decode cX2_valueAtOrBelow 5 = .ok (.iload 4, 2) := by decide +kernel
theorem dX2_valueAtOrBelow_7 : decode cX2_valueAtOrBelow 7 = .ok (.aload_n 0, 1) := by decide +kernel
theorem dX2_valueAtOrBelow_8 : decode cX2_valueAtOrBelow 8 = .ok (.getfield 24, 3) := by decide +kernel
theorem dX2_valueAtOrBelow_11 : decode cX2_valueAtOrBelow 11 = .ok (.if_icmp .ge 44, 3) := by decide +kernel
theorem dX2_valueAtOrBelow_14 : decode cX2_valueAtOrBelow 14 = .ok (.aload_n 0, 1) := by decide +kernel
theorem dX2_valueAtOrBelow_15 : decode cX2_valueAtOrBelow 15 = .ok (.getfield 11, 3) := by decide +kernel
theorem dX2_valueAtOrBelow_18 : decode cX2_valueAtOrBelow 18 = .ok (.iload 4, 2) := by decide +kernel
theorem dX2_valueAtOrBelow_20 : decode cX2_valueAtOrBelow 20 = .ok (.iaload, 1) := by decide +kernel
theorem dX2_valueAtOrBelow_21 : decode cX2_valueAtOrBelow 21 = .ok (.iload_n 1, 1) := by decide +kernel
theorem dX2_valueAtOrBelow_22 : decode cX2_valueAtOrBelow 22 = .ok (.if_icmp .gt 27, 3) := by decide +kernel
theorem dX2_valueAtOrBelow_25 : decode cX2_valueAtOrBelow 25 = .ok (.iload_n 3, 1) := by decide +kernel
theorem dX2_valueAtOrBelow_26 : decode cX2_valueAtOrBelow 26 = .ok (.iconst (-1), 1) := by decide +kernel
theorem dX2_valueAtOrBelow_27 : decode cX2_valueAtOrBelow 27 = .ok (.if_icmp .eq 19, 3) := by decide +kernel
theorem dX2_valueAtOrBelow_30 : decode cX2_valueAtOrBelow 30 = .ok (.aload_n 0, 1) := by decide +kernel
theorem dX2_valueAtOrBelow_31 : decode cX2_valueAtOrBelow 31 = .ok (.getfield 11, 3) := by decide +kernel
theorem dX2_valueAtOrBelow_34 : decode cX2_valueAtOrBelow 34 = .ok (.iload 4, 2) := by decide +kernel
theorem dX2_valueAtOrBelow_36 : decode cX2_valueAtOrBelow 36 = .ok (.iaload, 1) := by decide +kernel
theorem dX2_valueAtOrBelow_37 : decode cX2_valueAtOrBelow 37 = .ok (.aload_n 0, 1) := by decide +kernel
theorem dX2_valueAtOrBelow_38 : decode cX2_valueAtOrBelow 38 = .ok (.getfield 11, 3) := by decide +kernel
theorem dX2_valueAtOrBelow_41 : decode cX2_valueAtOrBelow 41 = .ok (.iload_n 3, 1) := by decide +kernel
theorem dX2_valueAtOrBelow_42 : decode cX2_valueAtOrBelow 42 = .ok (.iaload, 1) := by decide +kernel
theorem dX2_valueAtOrBelow_43 : decode cX2_valueAtOrBelow 43 = .ok (.if_icmp .le 6, 3) := by decide +kernel
theorem dX2_valueAtOrBelow_46 : decode cX2_valueAtOrBelow 46 = .ok (.iload 4, 2) := by decide +kernel
theorem dX2_valueAtOrBelow_48 : decode cX2_valueAtOrBelow 48 = .ok (.istore_n 3, 1) := by decide +kernel
theorem dX2_valueAtOrBelow_49 : decode cX2_valueAtOrBelow 49 = .ok (.iinc 4 1, 3) := by decide +kernel
theorem dX2_valueAtOrBelow_52 : decode cX2_valueAtOrBelow 52 = .ok (.goto (-47), 3) := by decide +kernel
theorem dX2_valueAtOrBelow_55 : decode cX2_valueAtOrBelow 55 = .ok (.iload_n 3, 1) := by decide +kernel
theorem dX2_valueAtOrBelow_56 : decode cX2_valueAtOrBelow 56 = .ok (.iconst (-1), 1) := by decide +kernel
theorem dX2_valueAtOrBelow_57 : decode cX2_valueAtOrBelow 57 = .ok (.if_icmp .ne 7, 3) := by decide +kernel
theorem dX2_valueAtOrBelow_60 : decode cX2_valueAtOrBelow 60 = .ok (.iload_n 2, 1) := by decide +kernel
theorem dX2_valueAtOrBelow_61 : decode cX2_valueAtOrBelow 61 = .ok (.goto 9, 3) := by decide +kernel
theorem dX2_valueAtOrBelow_64 : decode cX2_valueAtOrBelow 64 = .ok (.aload_n 0, 1) := by decide +kernel
theorem dX2_valueAtOrBelow_65 : decode cX2_valueAtOrBelow 65 = .ok (.getfield 15, 3) := by decide +kernel
theorem dX2_valueAtOrBelow_68 : decode cX2_valueAtOrBelow 68 = .ok (.iload_n 3, 1) := by decide +kernel
theorem dX2_valueAtOrBelow_69 : decode cX2_valueAtOrBelow 69 = .ok (.iaload, 1) := by decide +kernel
theorem dX2_valueAtOrBelow_70 : decode cX2_valueAtOrBelow 70 = .ok (.ireturn, 1) := by decide +kernel
theorem dX3_init_0 : decode cX3_init 0 = .ok (.aload_n 0, 1) := by decide +kernel
theorem dX3_init_1 : decode cX3_init 1 = .ok (.invokespecial 1, 3) := by decide +kernel
theorem dX3_init_4 : decode cX3_init 4 = .ok (.aload_n 0, 1) := by decide +kernel
theorem dX3_init_5 : decode cX3_init 5 = .ok (.bipush 8, 2) := by decide +kernel
theorem dX3_init_7 : decode cX3_init 7 = .ok (.anewarray 9, 3) := by decide +kernel
theorem dX3_init_10 : decode cX3_init 10 = .ok (.putfield 11, 3) := by decide +kernel
theorem dX3_init_13 : decode cX3_init 13 = .ok (.iconst 0, 1) := by decide +kernel
theorem dX3_init_14 : decode cX3_init 14 = .ok (.istore_n 1, 1) := by decide +kernel
theorem dX3_init_15 : decode cX3_init 15 = .ok (.iload_n 1, 1) := by decide +kernel
theorem dX3_init_16 : decode cX3_init 16 = .ok (.bipush 8, 2) := by decide +kernel
theorem dX3_init_18 : decode cX3_init 18 = .ok (.if_icmp .ge 22, 3) := by decide +kernel
theorem dX3_init_21 : decode cX3_init 21 = .ok (.aload_n 0, 1) := by decide +kernel
theorem dX3_init_22 : decode cX3_init 22 = .ok (.getfield 11, 3) := by decide +kernel
theorem dX3_init_25 : decode cX3_init 25 = .ok (.iload_n 1, 1) := by decide +kernel
theorem dX3_init_26 : decode cX3_init 26 = .ok (.new 9, 3) := by decide +kernel
theorem dX3_init_29 : decode cX3_init 29 = .ok (.dup, 1) := by decide +kernel
theorem dX3_init_30 : decode cX3_init 30 = .ok (.invokespecial 15, 3) := by decide +kernel
theorem dX3_init_33 : decode cX3_init 33 = .ok (.aastore, 1) := by decide +kernel
theorem dX3_init_34 : decode cX3_init 34 = .ok (.iinc 1 1, 3) := by decide +kernel
theorem dX3_init_37 : decode cX3_init 37 = .ok (.goto (-22), 3) := by decide +kernel
theorem dX3_init_40 : decode cX3_init 40 = .ok (.return_, 1) := by decide +kernel
theorem dX3_forget_0 : decode cX3_forget 0 = .ok (.aload_n 0, 1) := by decide +kernel
theorem dX3_forget_1 : decode cX3_forget 1 = .ok (.iconst 0, 1) := by decide +kernel
theorem dX3_forget_2 : decode cX3_forget 2 = .ok (.putfield 16, 3) := by decide +kernel
theorem dX3_forget_5 : decode cX3_forget 5 = .ok (.return_, 1) := by decide +kernel
theorem dX3_remember_0 : decode cX3_remember 0 = .ok (.aload_n 0, 1) := by decide +kernel
theorem dX3_remember_1 : decode cX3_remember 1 = .ok (.getfield 11, 3) := by decide +kernel
theorem dX3_remember_4 : decode cX3_remember 4 = .ok (.aload_n 0, 1) := by decide +kernel
theorem dX3_remember_5 : decode cX3_remember 5 = .ok (.getfield 20, 3) := by decide +kernel
theorem dX3_remember_8 : decode cX3_remember 8 = .ok (.aaload, 1) := by decide +kernel
theorem dX3_remember_9 : decode cX3_remember 9 = .ok (.aload_n 1, 1) := by decide +kernel
theorem dX3_remember_10 : decode cX3_remember 10 = .ok (.invokevirtual 23, 3) := by decide +kernel
theorem dX3_remember_13 : decode cX3_remember 13 = .ok (.aload_n 0, 1) := by decide +kernel
theorem dX3_remember_14 : decode cX3_remember 14 = .ok (.aload_n 0, 1) := by decide +kernel
theorem dX3_remember_15 : decode cX3_remember 15 = .ok (.getfield 20, 3) := by decide +kernel
theorem dX3_remember_18 : decode cX3_remember 18 = .ok (.iconst 1, 1) := by decide +kernel
theorem dX3_remember_19 : decode cX3_remember 19 = .ok (.iadd, 1) := by decide +kernel
theorem dX3_remember_20 : decode cX3_remember 20 = .ok (.bipush 8, 2) := by decide +kernel
theorem dX3_remember_22 : decode cX3_remember 22 = .ok (.irem, 1) := by decide +kernel
theorem dX3_remember_23 : decode cX3_remember 23 = .ok (.putfield 20, 3) := by decide +kernel
theorem dX3_remember_26 : decode cX3_remember 26 = .ok (.aload_n 0, 1) := by decide +kernel
theorem dX3_remember_27 : decode cX3_remember 27 = .ok (.aload_n 0, 1) := by decide +kernel
theorem dX3_remember_28 : decode cX3_remember 28 = .ok (.getfield 16, 3) := by decide +kernel
theorem dX3_remember_31 : decode cX3_remember 31 = .ok (.iconst 1, 1) := by decide +kernel
theorem dX3_remember_32 : decode cX3_remember 32 = .ok (.iadd, 1) := by decide +kernel
theorem dX3_remember_33 : decode cX3_remember 33 = .ok (.bipush 8, 2) := by decide +kernel
theorem dX3_remember_35 : decode cX3_remember 35 = .ok (.invokestatic 27, 3) := by decide +kernel
theorem dX3_remember_38 : decode cX3_remember 38 = .ok (.putfield 16, 3) := by decide +kernel
theorem dX3_remember_41 : decode cX3_remember 41 = .ok (.return_, 1) := by decide +kernel
theorem dX3_bringBack_0 : decode cX3_bringBack 0 = .ok (.aload_n 0, 1) := by decide +kernel
theorem dX3_bringBack_1 : decode cX3_bringBack 1 = .ok (.getfield 16, 3) := by decide +kernel
theorem dX3_bringBack_4 : decode cX3_bringBack 4 = .ok (.ifCond .le 42, 3) := by decide +kernel
theorem dX3_bringBack_7 : decode cX3_bringBack 7 = .ok (.aload_n 0, 1) := by decide +kernel
theorem dX3_bringBack_8 : decode cX3_bringBack 8 = .ok (.aload_n 0, 1) := by decide +kernel
theorem dX3_bringBack_9 : decode cX3_bringBack 9 = .ok (.getfield 20, 3) := by decide +kernel
theorem dX3_bringBack_12 : decode cX3_bringBack 12 = .ok (.bipush 8, 2) := by decide +kernel
theorem dX3_bringBack_14 : decode cX3_bringBack 14 = .ok (.iadd, 1) := by decide +kernel
theorem dX3_bringBack_15 : decode cX3_bringBack 15 = .ok (.iconst 1, 1) := by decide +kernel
theorem dX3_bringBack_16 : decode cX3_bringBack 16 = .ok (.isub, 1) := by decide +kernel
theorem dX3_bringBack_17 : decode cX3_bringBack 17 = .ok (.bipush 8, 2) := by decide +kernel
theorem dX3_bringBack_19 : decode cX3_bringBack 19 = .ok (.irem, 1) := by decide +kernel
theorem dX3_bringBack_20 : decode cX3_bringBack 20 = .ok (.putfield 20, 3) := by decide +kernel
theorem dX3_bringBack_23 : decode cX3_bringBack 23 = .ok (.aload_n 0, 1) := by decide +kernel
theorem dX3_bringBack_24 : decode cX3_bringBack 24 = .ok (.dup, 1) := by decide +kernel
theorem dX3_bringBack_25 : decode cX3_bringBack 25 = .ok (.getfield 16, 3) := by decide +kernel
theorem dX3_bringBack_28 : decode cX3_bringBack 28 = .ok (.iconst 1, 1) := by decide +kernel
theorem dX3_bringBack_29 : decode cX3_bringBack 29 = .ok (.isub, 1) := by decide +kernel
theorem dX3_bringBack_30 : decode cX3_bringBack 30 = .ok (.putfield 16, 3) := by decide +kernel
theorem dX3_bringBack_33 : decode cX3_bringBack 33 = .ok (.aload_n 1, 1) := by decide +kernel
theorem dX3_bringBack_34 : decode cX3_bringBack 34 = .ok (.aload_n 0, 1) := by decide +kernel
theorem dX3_bringBack_35 : decode cX3_bringBack 35 = .ok (.getfield 11, 3) := by decide +kernel
theorem dX3_bringBack_38 : decode cX3_bringBack 38 = .ok (.aload_n 0, 1) := by decide +kernel
theorem dX3_bringBack_39 : decode cX3_bringBack 39 = .ok (.getfield 20, 3) := by decide +kernel
theorem dX3_bringBack_42 : decode cX3_bringBack 42 = .ok (.aaload, 1) := by decide +kernel
theorem dX3_bringBack_43 : decode cX3_bringBack 43 = .ok (.invokevirtual 23, 3) := by decide +kernel
theorem dX3_bringBack_46 : decode cX3_bringBack 46 = .ok (.return_, 1) := by decide +kernel
theorem dX4_init_0 : decode cX4_init 0 = .ok (.aload_n 0, 1) := by decide +kernel
theorem dX4_init_1 : decode cX4_init 1 = .ok (.invokespecial 3, 3) := by decide +kernel
theorem dX4_init_4 : decode cX4_init 4 = .ok (.aload_n 0, 1) := by decide +kernel
theorem dX4_init_5 : decode cX4_init 5 = .ok (.sipush 600, 3) := by decide +kernel
theorem dX4_init_8 : decode cX4_init 8 = .ok (.newarray .int, 2) := by decide +kernel
theorem dX4_init_10 : decode cX4_init 10 = .ok (.putfield 11, 3) := by decide +kernel
theorem dX4_init_13 : decode cX4_init 13 = .ok (.aload_n 0, 1) := by decide +kernel
theorem dX4_init_14 : decode cX4_init 14 = .ok (.sipush 600, 3) := by decide +kernel
theorem dX4_init_17 : decode cX4_init 17 = .ok (.newarray .int, 2) := by decide +kernel
theorem dX4_init_19 : decode cX4_init 19 = .ok (.putfield 15, 3) := by decide +kernel
theorem dX4_init_22 : decode cX4_init 22 = .ok (.aload_n 0, 1) := by decide +kernel
theorem dX4_init_23 : decode cX4_init 23 = .ok (.iconst (-1), 1) := by decide +kernel
theorem dX4_init_24 : decode cX4_init 24 = .ok (.putfield 18, 3) := by decide +kernel
theorem dX4_init_27 : decode cX4_init 27 = .ok (.return_, 1) := by decide +kernel
theorem dX4_bytesIn_0 : decode cX4_bytesIn 0 = .ok (.iconst 0, 1) := by decide +kernel
theorem dX4_bytesIn_1 : decode cX4_bytesIn 1 = .ok (.istore_n 1, 1) := by decide +kernel
theorem dX4_bytesIn_2 : decode cX4_bytesIn 2 = .ok (.bipush 24, 2) := by decide +kernel
theorem dX4_bytesIn_4 : decode cX4_bytesIn 4 = .ok (.istore_n 2, 1) := by decide +kernel
theorem dX4_bytesIn_5 : decode cX4_bytesIn 5 = .ok (.iload_n 2, 1) := by decide +kernel
theorem dX4_bytesIn_6 : decode cX4_bytesIn 6 = .ok (.ifCond .lt 22, 3) := by decide +kernel
theorem dX4_bytesIn_9 : decode cX4_bytesIn 9 = .ok (.iload_n 0, 1) := by decide +kernel
theorem dX4_bytesIn_10 : decode cX4_bytesIn 10 = .ok (.iload_n 2, 1) := by decide +kernel
theorem dX4_bytesIn_11 : decode cX4_bytesIn 11 = .ok (.iushr, 1) := by decide +kernel
theorem dX4_bytesIn_12 : decode cX4_bytesIn 12 = .ok (.sipush 255, 3) := by decide +kernel
theorem dX4_bytesIn_15 : decode cX4_bytesIn 15 = .ok (.iand, 1) := by decide +kernel
theorem dX4_bytesIn_16 : decode cX4_bytesIn 16 = .ok (.ifCond .eq 6, 3) := by decide +kernel
theorem dX4_bytesIn_19 : decode cX4_bytesIn 19 = .ok (.iinc 1 1, 3) := by decide +kernel
theorem dX4_bytesIn_22 : decode cX4_bytesIn 22 = .ok (.iinc 2 (-8), 3) := by decide +kernel
theorem dX4_bytesIn_25 : decode cX4_bytesIn 25 = .ok (.goto (-20), 3) := by decide +kernel
theorem dX4_bytesIn_28 : decode cX4_bytesIn 28 = .ok (.iload_n 1, 1) := by decide +kernel
theorem dX4_bytesIn_29 : decode cX4_bytesIn 29 = .ok (.ireturn, 1) := by decide +kernel
theorem dX4_room_0 : decode cX4_room 0 = .ok (.sipush 600, 3) := by decide +kernel
theorem dX4_room_3 : decode cX4_room 3 = .ok (.aload_n 0, 1) := by decide +kernel
theorem dX4_room_4 : decode cX4_room 4 = .ok (.getfield 22, 3) := by decide +kernel
theorem dX4_room_7 : decode cX4_room 7 = .ok (.isub, 1) := by decide +kernel
theorem dX4_room_8 : decode cX4_room 8 = .ok (.ireturn, 1) := by decide +kernel
theorem dX4_addBytesOf_0 : decode cX4_addBytesOf 0 = .ok (.bipush 24, 2) := by decide +kernel
theorem dX4_addBytesOf_2 : decode cX4_addBytesOf 2 = .ok (.istore_n 2, 1) := by decide +kernel
theorem dX4_addBytesOf_3 : decode cX4_addBytesOf 3 = .ok (.iload_n 2, 1) := by decide +kernel
theorem dX4_addBytesOf_4 : decode cX4_addBytesOf 4 = .ok (.ifCond .lt 64, 3) := by decide +kernel
theorem dX4_addBytesOf_7 : decode cX4_addBytesOf 7 = .ok (.iload_n 1, 1) := by decide +kernel
theorem dX4_addBytesOf_8 : decode cX4_addBytesOf 8 = .ok (.iload_n 2, 1) := by decide +kernel
theorem dX4_addBytesOf_9 : decode cX4_addBytesOf 9 = .ok (.iushr, 1) := by decide +kernel
theorem dX4_addBytesOf_10 : decode cX4_addBytesOf 10 = .ok (.sipush 255, 3) := by decide +kernel
theorem dX4_addBytesOf_13 : decode cX4_addBytesOf 13 = .ok (.iand, 1) := by decide +kernel
theorem dX4_addBytesOf_14 : decode cX4_addBytesOf 14 = .ok (.istore_n 3, 1) := by decide +kernel
theorem dX4_addBytesOf_15 : decode cX4_addBytesOf 15 = .ok (.iload_n 3, 1) := by decide +kernel
theorem dX4_addBytesOf_16 : decode cX4_addBytesOf 16 = .ok (.ifCond .eq 46, 3) := by decide +kernel
theorem dX4_addBytesOf_19 : decode cX4_addBytesOf 19 = .ok (.aload_n 0, 1) := by decide +kernel
theorem dX4_addBytesOf_20 : decode cX4_addBytesOf 20 = .ok (.getfield 22, 3) := by decide +kernel
theorem dX4_addBytesOf_23 : decode cX4_addBytesOf 23 = .ok (.sipush 600, 3) := by decide +kernel
theorem dX4_addBytesOf_26 : decode cX4_addBytesOf 26 = .ok (.if_icmp .ge 36, 3) := by decide +kernel
theorem dX4_addBytesOf_29 : decode cX4_addBytesOf 29 = .ok (.aload_n 0, 1) := by decide +kernel
theorem dX4_addBytesOf_30 : decode cX4_addBytesOf 30 = .ok (.getfield 11, 3) := by decide +kernel
theorem dX4_addBytesOf_33 : decode cX4_addBytesOf 33 = .ok (.aload_n 0, 1) := by decide +kernel
theorem dX4_addBytesOf_34 : decode cX4_addBytesOf 34 = .ok (.getfield 22, 3) := by decide +kernel
theorem dX4_addBytesOf_37 : decode cX4_addBytesOf 37 = .ok (.iload_n 3, 1) := by decide +kernel
theorem dX4_addBytesOf_38 : decode cX4_addBytesOf 38 = .ok (.iastore, 1) := by decide +kernel
theorem dX4_addBytesOf_39 : decode cX4_addBytesOf 39 = .ok (.aload_n 0, 1) := by decide +kernel
theorem dX4_addBytesOf_40 : decode cX4_addBytesOf 40 = .ok (.getfield 15, 3) := by decide +kernel
theorem dX4_addBytesOf_43 : decode cX4_addBytesOf 43 = .ok (.aload_n 0, 1) := by decide +kernel
theorem dX4_addBytesOf_44 : decode cX4_addBytesOf 44 = .ok (.getfield 22, 3) := by decide +kernel
theorem dX4_addBytesOf_47 : decode cX4_addBytesOf 47 = .ok (.iload_n 3, 1) := by decide +kernel
theorem dX4_addBytesOf_48 : decode cX4_addBytesOf 48 = .ok (.invokestatic 25, 3) := by decide +kernel
theorem dX4_addBytesOf_51 : decode cX4_addBytesOf 51 = .ok (.iastore, 1) := by decide +kernel
theorem dX4_addBytesOf_52 : decode cX4_addBytesOf 52 = .ok (.aload_n 0, 1) := by decide +kernel
theorem dX4_addBytesOf_53 : decode cX4_addBytesOf 53 = .ok (.dup, 1) := by decide +kernel
theorem dX4_addBytesOf_54 : decode cX4_addBytesOf 54 = .ok (.getfield 22, 3) := by decide +kernel
theorem dX4_addBytesOf_57 : decode cX4_addBytesOf 57 = .ok (.iconst 1, 1) := by decide +kernel
theorem dX4_addBytesOf_58 : decode cX4_addBytesOf 58 = .ok (.iadd, 1) := by decide +kernel
theorem dX4_addBytesOf_59 : decode cX4_addBytesOf 59 = .ok (.putfield 22, 3) := by decide +kernel
theorem dX4_addBytesOf_62 : decode cX4_addBytesOf 62 = .ok (.iinc 2 (-8), 3) := by decide +kernel
theorem dX4_addBytesOf_65 : decode cX4_addBytesOf 65 = .ok (.goto (-62), 3) := by decide +kernel
theorem dX4_addBytesOf_68 : decode cX4_addBytesOf 68 = .ok (.return_, 1) := by decide +kernel
theorem dX4_kindOf_0 : decode cX4_kindOf 0 = .ok (.iload_n 0, 1) := by decide +kernel
theorem dX4_kindOf_1 : decode cX4_kindOf 1 = .ok (.bipush 97, 2) := by decide +kernel
theorem dX4_kindOf_3 : decode cX4_kindOf 3 = .ok (.if_icmp .lt 11, 3) := by decide +kernel
theorem dX4_kindOf_6 : decode cX4_kindOf 6 = .ok (.iload_n 0, 1) := by decide +kernel
theorem dX4_kindOf_7 : decode cX4_kindOf 7 = .ok (.bipush 122, 2) := by decide +kernel
theorem dX4_kindOf_9 : decode cX4_kindOf 9 = .ok (.if_icmp .gt 5, 3) := by decide +kernel
theorem dX4_kindOf_12 : decode cX4_kindOf 12 = .ok (.iconst 1, 1) := by decide +kernel
theorem dX4_kindOf_13 : decode cX4_kindOf 13 = .ok (.ireturn, 1) := by decide +kernel
theorem dX4_kindOf_14 : decode cX4_kindOf 14 = .ok (.iload_n 0, 1) := by decide +kernel
theorem dX4_kindOf_15 : decode cX4_kindOf 15 = .ok (.bipush 48, 2) := by decide +kernel
theorem dX4_kindOf_17 : decode cX4_kindOf 17 = .ok (.if_icmp .lt 11, 3) := by decide +kernel
theorem dX4_kindOf_20 : decode cX4_kindOf 20 = .ok (.iload_n 0, 1) := by decide +kernel
theorem dX4_kindOf_21 : decode cX4_kindOf 21 = .ok (.bipush 57, 2) := by decide +kernel
theorem dX4_kindOf_23 : decode cX4_kindOf 23 = .ok (.if_icmp .gt 5, 3) := by decide +kernel
theorem dX4_kindOf_26 : decode cX4_kindOf 26 = .ok (.iconst 2, 1) := by decide +kernel
theorem dX4_kindOf_27 : decode cX4_kindOf 27 = .ok (.ireturn, 1) := by decide +kernel
theorem dX4_kindOf_28 : decode cX4_kindOf 28 = .ok (.iload_n 0, 1) := by decide +kernel
theorem dX4_kindOf_29 : decode cX4_kindOf 29 = .ok (.lookupswitch 49 #[(10, 47), (32, 47), (45, 43), (59, 45)], 43) := by decide +kernel
theorem dX4_kindOf_72 : decode cX4_kindOf 72 = .ok (.iconst 3, 1) := by decide +kernel
theorem dX4_kindOf_73 : decode cX4_kindOf 73 = .ok (.ireturn, 1) := by decide +kernel
theorem dX4_kindOf_74 : decode cX4_kindOf 74 = .ok (.iconst 4, 1) := by decide +kernel
theorem dX4_kindOf_75 : decode cX4_kindOf 75 = .ok (.ireturn, 1) := by decide +kernel
theorem dX4_kindOf_76 : decode cX4_kindOf 76 = .ok (.iconst 5, 1) := by decide +kernel
theorem dX4_kindOf_77 : decode cX4_kindOf 77 = .ok (.ireturn, 1) := by decide +kernel
theorem dX4_kindOf_78 : decode cX4_kindOf 78 = .ok (.bipush 6, 2) := by decide +kernel
theorem dX4_kindOf_80 : decode cX4_kindOf 80 = .ok (.ireturn, 1) := by decide +kernel
theorem dX4_emptyText_0 : decode cX4_emptyText 0 = .ok (.aload_n 0, 1) := by decide +kernel
theorem dX4_emptyText_1 : decode cX4_emptyText 1 = .ok (.iconst 0, 1) := by decide +kernel
theorem dX4_emptyText_2 : decode cX4_emptyText 2 = .ok (.putfield 22, 3) := by decide +kernel
theorem dX4_emptyText_5 : decode cX4_emptyText 5 = .ok (.return_, 1) := by decide +kernel
theorem dX4_begin_0 : decode cX4_begin 0 = .ok (.aload_n 0, 1) := by decide +kernel
theorem dX4_begin_1 : decode cX4_begin 1 = .ok (.iconst 0, 1) := by decide +kernel
theorem dX4_begin_2 : decode cX4_begin 2 = .ok (.putfield 29, 3) := by decide +kernel
theorem dX4_begin_5 : decode cX4_begin 5 = .ok (.aload_n 0, 1) := by decide +kernel
theorem dX4_begin_6 : decode cX4_begin 6 = .ok (.iconst (-1), 1) := by decide +kernel
theorem dX4_begin_7 : decode cX4_begin 7 = .ok (.putfield 18, 3) := by decide +kernel
theorem dX4_begin_10 : decode cX4_begin 10 = .ok (.aload_n 0, 1) := by decide +kernel
theorem dX4_begin_11 : decode cX4_begin 11 = .ok (.iconst 0, 1) := by decide +kernel
theorem dX4_begin_12 : decode cX4_begin 12 = .ok (.putfield 32, 3) := by decide +kernel
theorem dX4_begin_15 : decode cX4_begin 15 = .ok (.aload_n 0, 1) := by decide +kernel
theorem dX4_begin_16 : decode cX4_begin 16 = .ok (.invokevirtual 35, 3) := by decide +kernel
theorem dX4_begin_19 : decode cX4_begin 19 = .ok (.return_, 1) := by decide +kernel
theorem dX4_hasFailed_0 : decode cX4_hasFailed 0 = .ok (.aload_n 0, 1) := by decide +kernel
theorem dX4_hasFailed_1 : decode cX4_hasFailed 1 = .ok (.getfield 29, 3) := by decide +kernel
theorem dX4_hasFailed_4 : decode cX4_hasFailed 4 = .ok (.ifCond .eq 7, 3) := by decide +kernel
theorem dX4_hasFailed_7 : decode cX4_hasFailed 7 = .ok (.iconst 1, 1) := by decide +kernel
theorem dX4_hasFailed_8 : decode cX4_hasFailed 8 = .ok (.goto 4, 3) := by decide +kernel
theorem dX4_hasFailed_11 : decode cX4_hasFailed 11 = .ok (.iconst 0, 1) := by decide +kernel
theorem dX4_hasFailed_12 : decode cX4_hasFailed 12 = .ok (.ireturn, 1) := by decide +kernel
theorem dX4_hasMore_0 : decode cX4_hasMore 0 = .ok (.aload_n 0, 1) := by decide +kernel
theorem dX4_hasMore_1 : decode cX4_hasMore 1 = .ok (.invokevirtual 38, 3) := by decide +kernel
theorem dX4_hasMore_4 : decode cX4_hasMore 4 = .ok (.ifCond .ne 14, 3) := by decide +kernel
theorem dX4_hasMore_7 : decode cX4_hasMore 7 = .ok (.aload_n 0, 1) := by decide +kernel
theorem dX4_hasMore_8 : decode cX4_hasMore 8 = .ok (.getfield 42, 3) := by decide +kernel
theorem dX4_hasMore_11 : decode cX4_hasMore 11 = .ok (.ifCond .eq 7, 3) := by decide +kernel
theorem dX4_hasMore_14 : decode cX4_hasMore 14 = .ok (.iconst 1, 1) := by decide +kernel
theorem dX4_hasMore_15 : decode cX4_hasMore 15 = .ok (.goto 4, 3) := by decide +kernel
theorem dX4_hasMore_18 : decode cX4_hasMore 18 = .ok (.iconst 0, 1) := by decide +kernel
theorem dX4_hasMore_19 : decode cX4_hasMore 19 = .ok (.ireturn, 1) := by decide +kernel
theorem dX4_skipWord_0 : decode cX4_skipWord 0 = .ok (.aload_n 0, 1) := by decide +kernel
theorem dX4_skipWord_1 : decode cX4_skipWord 1 = .ok (.invokevirtual 38, 3) := by decide +kernel
theorem dX4_skipWord_4 : decode cX4_skipWord 4 = .ok (.ifCond .ne 11, 3) := by decide +kernel
theorem dX4_skipWord_7 : decode cX4_skipWord 7 = .ok (.aload_n 0, 1) := by decide +kernel
theorem dX4_skipWord_8 : decode cX4_skipWord 8 = .ok (.aload_n 1, 1) := by decide +kernel
theorem dX4_skipWord_9 : decode cX4_skipWord 9 = .ok (.invokevirtual 45, 3) := by decide +kernel
theorem dX4_skipWord_12 : decode cX4_skipWord 12 = .ok (.ifCond .ne 5, 3) := by decide +kernel
theorem dX4_skipWord_15 : decode cX4_skipWord 15 = .ok (.iconst 0, 1) := by decide +kernel
theorem dX4_skipWord_16 : decode cX4_skipWord 16 = .ok (.ireturn, 1) := by decide +kernel
theorem dX4_skipWord_17 : decode cX4_skipWord 17 = .ok (.aload_n 0, 1) := by decide +kernel
theorem dX4_skipWord_18 : decode cX4_skipWord 18 = .ok (.invokevirtual 35, 3) := by decide +kernel
theorem dX4_skipWord_21 : decode cX4_skipWord 21 = .ok (.iconst 1, 1) := by decide +kernel
theorem dX4_skipWord_22 : decode cX4_skipWord 22 = .ok (.ireturn, 1) := by decide +kernel
theorem dX4_takeWord_0 : decode cX4_takeWord 0 = .ok (.aload_n 0, 1) := by decide +kernel
theorem dX4_takeWord_1 : decode cX4_takeWord 1 = .ok (.aload_n 1, 1) := by decide +kernel
theorem dX4_takeWord_2 : decode cX4_takeWord 2 = .ok (.invokevirtual 45, 3) := by decide +kernel
theorem dX4_takeWord_5 : decode cX4_takeWord 5 = .ok (.ifCond .ne 15, 3) := by decide +kernel
theorem dX4_takeWord_8 : decode cX4_takeWord 8 = .ok (.aload_n 0, 1) := by decide +kernel
theorem dX4_takeWord_9 : decode cX4_takeWord 9 = .ok (.aload_n 0, 1) := by decide +kernel
theorem dX4_takeWord_10 : decode cX4_takeWord 10 = .ok (.getfield 49, 3) := by decide +kernel
theorem dX4_takeWord_13 : decode cX4_takeWord 13 = .ok (.iconst 1, 1) := by decide +kernel
theorem dX4_takeWord_14 : decode cX4_takeWord 14 = .ok (.invokevirtual 52, 3) := by decide +kernel
theorem dX4_takeWord_17 : decode cX4_takeWord 17 = .ok (.goto 14, 3) := by decide +kernel
theorem dX4_takeWord_20 : decode cX4_takeWord 20 = .ok (.aload_n 0, 1) := by decide +kernel
theorem dX4_takeWord_21 : decode cX4_takeWord 21 = .ok (.invokevirtual 38, 3) := by decide +kernel
theorem dX4_takeWord_24 : decode cX4_takeWord 24 = .ok (.ifCond .ne 7, 3) := by decide +kernel
theorem dX4_takeWord_27 : decode cX4_takeWord 27 = .ok (.aload_n 0, 1) := by decide +kernel
theorem dX4_takeWord_28 : decode cX4_takeWord 28 = .ok (.invokevirtual 35, 3) := by decide +kernel
theorem dX4_takeWord_31 : decode cX4_takeWord 31 = .ok (.return_, 1) := by decide +kernel
theorem dX4_takeSemicolon_0 : decode cX4_takeSemicolon 0 = .ok (.aload_n 0, 1) := by decide +kernel
theorem dX4_takeSemicolon_1 : decode cX4_takeSemicolon 1 = .ok (.getfield 42, 3) := by decide +kernel
theorem dX4_takeSemicolon_4 : decode cX4_takeSemicolon 4 = .ok (.iconst 4, 1) := by decide +kernel
theorem dX4_takeSemicolon_5 : decode cX4_takeSemicolon 5 = .ok (.if_icmp .eq 15, 3) := by decide +kernel
theorem dX4_takeSemicolon_8 : decode cX4_takeSemicolon 8 = .ok (.aload_n 0, 1) := by decide +kernel
theorem dX4_takeSemicolon_9 : decode cX4_takeSemicolon 9 = .ok (.aload_n 0, 1) := by decide +kernel
theorem dX4_takeSemicolon_10 : decode cX4_takeSemicolon 10 = .ok (.getfield 49, 3) := by decide +kernel
theorem dX4_takeSemicolon_13 : decode cX4_takeSemicolon 13 = .ok (.iconst 1, 1) := by decide +kernel
theorem dX4_takeSemicolon_14 : decode cX4_takeSemicolon 14 = .ok (.invokevirtual 52, 3) := by decide +kernel
theorem dX4_takeSemicolon_17 : decode cX4_takeSemicolon 17 = .ok (.goto 14, 3) := by decide +kernel
theorem dX4_takeSemicolon_20 : decode cX4_takeSemicolon 20 = .ok (.aload_n 0, 1) := by decide +kernel
theorem dX4_takeSemicolon_21 : decode cX4_takeSemicolon 21 = .ok (.invokevirtual 38, 3) := by decide +kernel
theorem dX4_takeSemicolon_24 : decode cX4_takeSemicolon 24 = .ok (.ifCond .ne 7, 3) := by decide +kernel
theorem dX4_takeSemicolon_27 : decode cX4_takeSemicolon 27 = .ok (.aload_n 0, 1) := by decide +kernel
theorem dX4_takeSemicolon_28 : decode cX4_takeSemicolon 28 = .ok (.invokevirtual 35, 3) := by decide +kernel
theorem dX4_takeSemicolon_31 : decode cX4_takeSemicolon 31 = .ok (.return_, 1) := by decide +kernel
theorem dX4_takeNumber_0 : decode cX4_takeNumber 0 = .ok (.aload_n 0, 1) := by decide +kernel
theorem dX4_takeNumber_1 : decode cX4_takeNumber 1 = .ok (.getfield 42, 3) := by decide +kernel
theorem dX4_takeNumber_4 : decode cX4_takeNumber 4 = .ok (.iconst 2, 1) := by decide +kernel
theorem dX4_takeNumber_5 : decode cX4_takeNumber 5 = .ok (.if_icmp .eq 15, 3) := by decide +kernel
theorem dX4_takeNumber_8 : decode cX4_takeNumber 8 = .ok (.aload_n 0, 1) := by decide +kernel
theorem dX4_takeNumber_9 : decode cX4_takeNumber 9 = .ok (.aload_n 0, 1) := by decide +kernel
theorem dX4_takeNumber_10 : decode cX4_takeNumber 10 = .ok (.getfield 49, 3) := by decide +kernel
theorem dX4_takeNumber_13 : decode cX4_takeNumber 13 = .ok (.iconst 1, 1) := by decide +kernel
theorem dX4_takeNumber_14 : decode cX4_takeNumber 14 = .ok (.invokevirtual 52, 3) := by decide +kernel
theorem dX4_takeNumber_17 : decode cX4_takeNumber 17 = .ok (.goto 28, 3) := by decide +kernel
theorem dX4_takeNumber_20 : decode cX4_takeNumber 20 = .ok (.aload_n 0, 1) := by decide +kernel
theorem dX4_takeNumber_21 : decode cX4_takeNumber 21 = .ok (.getfield 56, 3) := by decide +kernel
theorem dX4_takeNumber_24 : decode cX4_takeNumber 24 = .ok (.iload_n 1, 1) := by decide +kernel
theorem dX4_takeNumber_25 : decode cX4_takeNumber 25 = .ok (.if_icmp .lt 11, 3) := by decide +kernel
theorem dX4_takeNumber_28 : decode cX4_takeNumber 28 = .ok (.aload_n 0, 1) := by decide +kernel
theorem dX4_takeNumber_29 : decode cX4_takeNumber 29 = .ok (.getfield 56, 3) := by decide +kernel
theorem dX4_takeNumber_32 : decode cX4_takeNumber 32 = .ok (.iload_n 2, 1) := by decide +kernel
theorem dX4_takeNumber_33 : decode cX4_takeNumber 33 = .ok (.if_icmp .le 12, 3) := by decide +kernel
theorem dX4_takeNumber_36 : decode cX4_takeNumber 36 = .ok (.aload_n 0, 1) := by decide +kernel
theorem dX4_takeNumber_37 : decode cX4_takeNumber 37 = .ok (.aload_n 0, 1) := by decide +kernel
theorem dX4_takeNumber_38 : decode cX4_takeNumber 38 = .ok (.getfield 49, 3) := by decide +kernel
theorem dX4_takeNumber_41 : decode cX4_takeNumber 41 = .ok (.iconst 2, 1) := by decide +kernel
theorem dX4_takeNumber_42 : decode cX4_takeNumber 42 = .ok (.invokevirtual 52, 3) := by decide +kernel
theorem dX4_takeNumber_45 : decode cX4_takeNumber 45 = .ok (.aload_n 0, 1) := by decide +kernel
theorem dX4_takeNumber_46 : decode cX4_takeNumber 46 = .ok (.invokevirtual 38, 3) := by decide +kernel
theorem dX4_takeNumber_49 : decode cX4_takeNumber 49 = .ok (.ifCond .eq 5, 3) := by decide +kernel
theorem dX4_takeNumber_52 : decode cX4_takeNumber 52 = .ok (.iconst 0, 1) := by decide +kernel
theorem dX4_takeNumber_53 : decode cX4_takeNumber 53 = .ok (.ireturn, 1) := by decide +kernel
theorem dX4_takeNumber_54 : decode cX4_takeNumber 54 = .ok (.aload_n 0, 1) := by decide +kernel
theorem dX4_takeNumber_55 : decode cX4_takeNumber 55 = .ok (.getfield 56, 3) := by decide +kernel
theorem dX4_takeNumber_58 : decode cX4_takeNumber 58 = .ok (.istore_n 3, 1) := by decide +kernel
theorem dX4_takeNumber_59 : decode cX4_takeNumber 59 = .ok (.aload_n 0, 1) := by decide +kernel
theorem dX4_takeNumber_60 : decode cX4_takeNumber 60 = .ok (.invokevirtual 35, 3) := by decide +kernel
theorem dX4_takeNumber_63 : decode cX4_takeNumber 63 = .ok (.iload_n 3, 1) := by decide +kernel
theorem dX4_takeNumber_64 : decode cX4_takeNumber 64 = .ok (.ireturn, 1) := by decide +kernel
theorem dX4_takeSigned_0 : decode cX4_takeSigned 0 = .ok (.aload_n 0, 1) := by decide +kernel
theorem dX4_takeSigned_1 : decode cX4_takeSigned 1 = .ok (.getfield 42, 3) := by decide +kernel
theorem dX4_takeSigned_4 : decode cX4_takeSigned 4 = .ok (.iconst 3, 1) := by decide +kernel
theorem dX4_takeSigned_5 : decode cX4_takeSigned 5 = .ok (.if_icmp .ne 14, 3) := by decide +kernel
theorem dX4_takeSigned_8 : decode cX4_takeSigned 8 = .ok (.aload_n 0, 1) := by decide +kernel
theorem dX4_takeSigned_9 : decode cX4_takeSigned 9 = .ok (.invokevirtual 38, 3) := by decide +kernel
theorem dX4_takeSigned_12 : decode cX4_takeSigned 12 = .ok (.ifCond .ne 7, 3) := by decide +kernel
theorem dX4_takeSigned_15 : decode cX4_takeSigned 15 = .ok (.iconst 1, 1) := by decide +kernel
theorem dX4_takeSigned_16 : decode cX4_takeSigned 16 = .ok (.goto 4, 3) := by decide +kernel
theorem dX4_takeSigned_19 : decode cX4_takeSigned 19 = .ok (.iconst 0, 1) := by decide +kernel
theorem dX4_takeSigned_20 : decode cX4_takeSigned 20 = .ok (.istore_n 2, 1) := by decide +kernel
theorem dX4_takeSigned_21 : decode cX4_takeSigned 21 = .ok (.iload_n 2, 1) := by decide +kernel
theorem dX4_takeSigned_22 : decode cX4_takeSigned 22 = .ok (.ifCond .eq 7, 3) := by decide +kernel
theorem dX4_takeSigned_25 : decode cX4_takeSigned 25 = .ok (.aload_n 0, 1) := by decide +kernel
theorem dX4_takeSigned_26 : decode cX4_takeSigned 26 = .ok (.invokevirtual 35, 3) := by decide +kernel
theorem dX4_takeSigned_29 : decode cX4_takeSigned 29 = .ok (.aload_n 0, 1) := by decide +kernel
theorem dX4_takeSigned_30 : decode cX4_takeSigned 30 = .ok (.iconst 0, 1) := by decide +kernel
theorem dX4_takeSigned_31 : decode cX4_takeSigned 31 = .ok (.iload_n 1, 1) := by decide +kernel
theorem dX4_takeSigned_32 : decode cX4_takeSigned 32 = .ok (.invokevirtual 59, 3) := by decide +kernel
theorem dX4_takeSigned_35 : decode cX4_takeSigned 35 = .ok (.istore_n 3, 1) := by decide +kernel
theorem dX4_takeSigned_36 : decode cX4_takeSigned 36 = .ok (.iload_n 2, 1) := by decide +kernel
theorem dX4_takeSigned_37 : decode cX4_takeSigned 37 = .ok (.ifCond .eq 8, 3) := by decide +kernel
theorem dX4_takeSigned_40 : decode cX4_takeSigned 40 = .ok (.iload_n 3, 1) := by decide +kernel
theorem dX4_takeSigned_41 : decode cX4_takeSigned 41 = .ok (.ineg, 1) := by decide +kernel
theorem dX4_takeSigned_42 : decode cX4_takeSigned 42 = .ok (.goto 4, 3) := by decide +kernel
theorem dX4_takeSigned_45 : decode cX4_takeSigned 45 = .ok (.iload_n 3, 1) := by decide +kernel
theorem dX4_takeSigned_46 : decode cX4_takeSigned 46 = .ok (.ireturn, 1) := by decide +kernel
theorem dX4_failHere_0 : decode cX4_failHere 0 = .ok (.aload_n 0, 1) := by decide +kernel
theorem dX4_failHere_1 : decode cX4_failHere 1 = .ok (.aload_n 0, 1) := by decide +kernel
theorem dX4_failHere_2 : decode cX4_failHere 2 = .ok (.getfield 49, 3) := by decide +kernel
theorem dX4_failHere_5 : decode cX4_failHere 5 = .ok (.iload_n 1, 1) := by decide +kernel
theorem dX4_failHere_6 : decode cX4_failHere 6 = .ok (.invokevirtual 52, 3) := by decide +kernel
theorem dX4_failHere_9 : decode cX4_failHere 9 = .ok (.return_, 1) := by decide +kernel
theorem dX4_failTaken_0 : decode cX4_failTaken 0 = .ok (.aload_n 0, 1) := by decide +kernel
theorem dX4_failTaken_1 : decode cX4_failTaken 1 = .ok (.aload_n 0, 1) := by decide +kernel
theorem dX4_failTaken_2 : decode cX4_failTaken 2 = .ok (.getfield 63, 3) := by decide +kernel
theorem dX4_failTaken_5 : decode cX4_failTaken 5 = .ok (.iload_n 1, 1) := by decide +kernel
theorem dX4_failTaken_6 : decode cX4_failTaken 6 = .ok (.invokevirtual 52, 3) := by decide +kernel
theorem dX4_failTaken_9 : decode cX4_failTaken 9 = .ok (.return_, 1) := by decide +kernel
theorem dX4_failAt_0 : decode cX4_failAt 0 = .ok (.aload_n 0, 1) := by decide +kernel
theorem dX4_failAt_1 : decode cX4_failAt 1 = .ok (.getfield 29, 3) := by decide +kernel
theorem dX4_failAt_4 : decode cX4_failAt 4 = .ok (.ifCond .ne 13, 3) := by decide +kernel
theorem dX4_failAt_7 : decode cX4_failAt 7 = .ok (.aload_n 0, 1) := by decide +kernel
theorem dX4_failAt_8 : decode cX4_failAt 8 = .ok (.iload_n 2, 1) := by decide +kernel
theorem dX4_failAt_9 : decode cX4_failAt 9 = .ok (.putfield 29, 3) := by decide +kernel
theorem dX4_failAt_12 : decode cX4_failAt 12 = .ok (.aload_n 0, 1) := by decide +kernel
theorem dX4_failAt_13 : decode cX4_failAt 13 = .ok (.iload_n 1, 1) := by decide +kernel
theorem dX4_failAt_14 : decode cX4_failAt 14 = .ok (.putfield 18, 3) := by decide +kernel
theorem dX4_failAt_17 : decode cX4_failAt 17 = .ok (.return_, 1) := by decide +kernel
theorem dX4_isAt_0 : decode cX4_isAt 0 = .ok (.aload_n 0, 1) := by decide +kernel
theorem dX4_isAt_1 : decode cX4_isAt 1 = .ok (.getfield 42, 3) := by decide +kernel
theorem dX4_isAt_4 : decode cX4_isAt 4 = .ok (.iconst 1, 1) := by decide +kernel
theorem dX4_isAt_5 : decode cX4_isAt 5 = .ok (.if_icmp .ne 19, 3) := by decide +kernel
theorem dX4_isAt_8 : decode cX4_isAt 8 = .ok (.aload_n 0, 1) := by decide +kernel
theorem dX4_isAt_9 : decode cX4_isAt 9 = .ok (.getfield 32, 3) := by decide +kernel
theorem dX4_isAt_12 : decode cX4_isAt 12 = .ok (.aload_n 0, 1) := by decide +kernel
theorem dX4_isAt_13 : decode cX4_isAt 13 = .ok (.getfield 49, 3) := by decide +kernel
theorem dX4_isAt_16 : decode cX4_isAt 16 = .ok (.isub, 1) := by decide +kernel
theorem dX4_isAt_17 : decode cX4_isAt 17 = .ok (.aload_n 1, 1) := by decide +kernel
theorem dX4_isAt_18 : decode cX4_isAt 18 = .ok (.invokevirtual 66, 3) := by decide +kernel
theorem dX4_isAt_21 : decode cX4_isAt 21 = .ok (.if_icmp .eq 5, 3) := by decide +kernel
theorem dX4_isAt_24 : decode cX4_isAt 24 = .ok (.iconst 0, 1) := by decide +kernel
theorem dX4_isAt_25 : decode cX4_isAt 25 = .ok (.ireturn, 1) := by decide +kernel
theorem dX4_isAt_26 : decode cX4_isAt 26 = .ok (.iconst 0, 1) := by decide +kernel
theorem dX4_isAt_27 : decode cX4_isAt 27 = .ok (.istore_n 2, 1) := by decide +kernel
theorem dX4_isAt_28 : decode cX4_isAt 28 = .ok (.iload_n 2, 1) := by decide +kernel
theorem dX4_isAt_29 : decode cX4_isAt 29 = .ok (.aload_n 1, 1) := by decide +kernel
theorem dX4_isAt_30 : decode cX4_isAt 30 = .ok (.invokevirtual 66, 3) := by decide +kernel
theorem dX4_isAt_33 : decode cX4_isAt 33 = .ok (.if_icmp .ge 30, 3) := by decide +kernel
theorem dX4_isAt_36 : decode cX4_isAt 36 = .ok (.aload_n 0, 1) := by decide +kernel
theorem dX4_isAt_37 : decode cX4_isAt 37 = .ok (.getfield 11, 3) := by decide +kernel
theorem dX4_isAt_40 : decode cX4_isAt 40 = .ok (.aload_n 0, 1) := by decide +kernel
theorem dX4_isAt_41 : decode cX4_isAt 41 = .ok (.getfield 49, 3) := by decide +kernel
theorem dX4_isAt_44 : decode cX4_isAt 44 = .ok (.iload_n 2, 1) := by decide +kernel
theorem dX4_isAt_45 : decode cX4_isAt 45 = .ok (.iadd, 1) := by decide +kernel
theorem dX4_isAt_46 : decode cX4_isAt 46 = .ok (.iaload, 1) := by decide +kernel
theorem dX4_isAt_47 : decode cX4_isAt 47 = .ok (.aload_n 1, 1) := by decide +kernel
theorem dX4_isAt_48 : decode cX4_isAt 48 = .ok (.iload_n 2, 1) := by decide +kernel
theorem dX4_isAt_49 : decode cX4_isAt 49 = .ok (.invokevirtual 71, 3) := by decide +kernel
theorem dX4_isAt_52 : decode cX4_isAt 52 = .ok (.if_icmp .eq 5, 3) := by decide +kernel
theorem dX4_isAt_55 : decode cX4_isAt 55 = .ok (.iconst 0, 1) := by decide +kernel
theorem dX4_isAt_56 : decode cX4_isAt 56 = .ok (.ireturn, 1) := by decide +kernel
theorem dX4_isAt_57 : decode cX4_isAt 57 = .ok (.iinc 2 1, 3) := by decide +kernel
theorem dX4_isAt_60 : decode cX4_isAt 60 = .ok (.goto (-32), 3) := by decide +kernel
theorem dX4_isAt_63 : decode cX4_isAt 63 = .ok (.iconst 1, 1) := by decide +kernel
theorem dX4_isAt_64 : decode cX4_isAt 64 = .ok (.ireturn, 1) := by decide +kernel
theorem dX4_advance_0 : decode cX4_advance 0 = .ok (.aload_n 0, 1) := by decide +kernel
theorem dX4_advance_1 : decode cX4_advance 1 = .ok (.aload_n 0, 1) := by decide +kernel
theorem dX4_advance_2 : decode cX4_advance 2 = .ok (.getfield 49, 3) := by decide +kernel
theorem dX4_advance_5 : decode cX4_advance 5 = .ok (.putfield 63, 3) := by decide +kernel
theorem dX4_advance_8 : decode cX4_advance 8 = .ok (.aload_n 0, 1) := by decide +kernel
theorem dX4_advance_9 : decode cX4_advance 9 = .ok (.aload_n 0, 1) := by decide +kernel
theorem dX4_advance_10 : decode cX4_advance 10 = .ok (.getfield 32, 3) := by decide +kernel
theorem dX4_advance_13 : decode cX4_advance 13 = .ok (.putfield 49, 3) := by decide +kernel
theorem dX4_advance_16 : decode cX4_advance 16 = .ok (.aload_n 0, 1) := by decide +kernel
theorem dX4_advance_17 : decode cX4_advance 17 = .ok (.getfield 49, 3) := by decide +kernel
theorem dX4_advance_20 : decode cX4_advance 20 = .ok (.aload_n 0, 1) := by decide +kernel
theorem dX4_advance_21 : decode cX4_advance 21 = .ok (.getfield 22, 3) := by decide +kernel
theorem dX4_advance_24 : decode cX4_advance 24 = .ok (.if_icmp .ge 29, 3) := by decide +kernel
theorem dX4_advance_27 : decode cX4_advance 27 = .ok (.aload_n 0, 1) := by decide +kernel
theorem dX4_advance_28 : decode cX4_advance 28 = .ok (.getfield 15, 3) := by decide +kernel
theorem dX4_advance_31 : decode cX4_advance 31 = .ok (.aload_n 0, 1) := by decide +kernel
theorem dX4_advance_32 : decode cX4_advance 32 = .ok (.getfield 49, 3) := by decide +kernel
theorem dX4_advance_35 : decode cX4_advance 35 = .ok (.iaload, 1) := by decide +kernel
theorem dX4_advance_36 : decode cX4_advance 36 = .ok (.iconst 5, 1) := by decide +kernel
theorem dX4_advance_37 : decode cX4_advance 37 = .ok (.if_icmp .ne 16, 3) := by decide +kernel
theorem dX4_advance_40 : decode cX4_advance 40 = .ok (.aload_n 0, 1) := by decide +kernel
theorem dX4_advance_41 : decode cX4_advance 41 = .ok (.dup, 1) := by decide +kernel
theorem dX4_advance_42 : decode cX4_advance 42 = .ok (.getfield 49, 3) := by decide +kernel
theorem dX4_advance_45 : decode cX4_advance 45 = .ok (.iconst 1, 1) := by decide +kernel
theorem dX4_advance_46 : decode cX4_advance 46 = .ok (.iadd, 1) := by decide +kernel
theorem dX4_advance_47 : decode cX4_advance 47 = .ok (.putfield 49, 3) := by decide +kernel
theorem dX4_advance_50 : decode cX4_advance 50 = .ok (.goto (-34), 3) := by decide +kernel
theorem dX4_advance_53 : decode cX4_advance 53 = .ok (.aload_n 0, 1) := by decide +kernel
theorem dX4_advance_54 : decode cX4_advance 54 = .ok (.aload_n 0, 1) := by decide +kernel
theorem dX4_advance_55 : decode cX4_advance 55 = .ok (.getfield 49, 3) := by decide +kernel
theorem dX4_advance_58 : decode cX4_advance 58 = .ok (.putfield 32, 3) := by decide +kernel
theorem dX4_advance_61 : decode cX4_advance 61 = .ok (.aload_n 0, 1) := by decide +kernel
theorem dX4_advance_62 : decode cX4_advance 62 = .ok (.getfield 49, 3) := by decide +kernel
theorem dX4_advance_65 : decode cX4_advance 65 = .ok (.aload_n 0, 1) := by decide +kernel
theorem dX4_advance_66 : decode cX4_advance 66 = .ok (.getfield 22, 3) := by decide +kernel
theorem dX4_advance_69 : decode cX4_advance 69 = .ok (.if_icmp .lt 9, 3) := by decide +kernel
theorem dX4_advance_72 : decode cX4_advance 72 = .ok (.aload_n 0, 1) := by decide +kernel
theorem dX4_advance_73 : decode cX4_advance 73 = .ok (.iconst 0, 1) := by decide +kernel
theorem dX4_advance_74 : decode cX4_advance 74 = .ok (.putfield 42, 3) := by decide +kernel
theorem dX4_advance_77 : decode cX4_advance 77 = .ok (.return_, 1) := by decide +kernel
theorem dX4_advance_78 : decode cX4_advance 78 = .ok (.aload_n 0, 1) := by decide +kernel
theorem dX4_advance_79 : decode cX4_advance 79 = .ok (.aload_n 0, 1) := by decide +kernel
theorem dX4_advance_80 : decode cX4_advance 80 = .ok (.getfield 15, 3) := by decide +kernel
theorem dX4_advance_83 : decode cX4_advance 83 = .ok (.aload_n 0, 1) := by decide +kernel
theorem dX4_advance_84 : decode cX4_advance 84 = .ok (.getfield 49, 3) := by decide +kernel
theorem dX4_advance_87 : decode cX4_advance 87 = .ok (.iaload, 1) := by decide +kernel
theorem dX4_advance_88 : decode cX4_advance 88 = .ok (.putfield 42, 3) := by decide +kernel
theorem dX4_advance_91 : decode cX4_advance 91 = .ok (.aload_n 0, 1) := by decide +kernel
theorem dX4_advance_92 : decode cX4_advance 92 = .ok (.dup, 1) := by decide +kernel
theorem dX4_advance_93 : decode cX4_advance 93 = .ok (.getfield 32, 3) := by decide +kernel
theorem dX4_advance_96 : decode cX4_advance 96 = .ok (.iconst 1, 1) := by decide +kernel
theorem dX4_advance_97 : decode cX4_advance 97 = .ok (.iadd, 1) := by decide +kernel
theorem dX4_advance_98 : decode cX4_advance 98 = .ok (.putfield 32, 3) := by decide +kernel
theorem dX4_advance_101 : decode cX4_advance 101 = .ok (.aload_n 0, 1) := by decide +kernel
theorem dX4_advance_102 : decode cX4_advance 102 = .ok (.getfield 42, 3) := by decide +kernel
theorem dX4_advance_105 : decode cX4_advance 105 = .ok (.iconst 1, 1) := by decide +kernel
theorem dX4_advance_106 : decode cX4_advance 106 = .ok (.if_icmp .ne 40, 3) := by decide +kernel
theorem dX4_advance_109 : decode cX4_advance 109 = .ok (.aload_n 0, 1) := by decide +kernel
theorem dX4_advance_110 : decode cX4_advance 110 = .ok (.getfield 32, 3) := by decide +kernel
theorem dX4_advance_113 : decode cX4_advance 113 = .ok (.aload_n 0, 1) := by decide +kernel
theorem dX4_advance_114 : decode cX4_advance 114 = .ok (.getfield 22, 3) := by decide +kernel
theorem dX4_advance_117 : decode cX4_advance 117 = .ok (.if_icmp .ge 123, 3) := by decide +kernel
theorem dX4_advance_120 : decode cX4_advance 120 = .ok (.aload_n 0, 1) := by decide +kernel
theorem dX4_advance_121 : decode cX4_advance 121 = .ok (.getfield 15, 3) := by decide +kernel
theorem dX4_advance_124 : decode cX4_advance 124 = .ok (.aload_n 0, 1) := by decide +kernel
theorem dX4_advance_125 : decode cX4_advance 125 = .ok (.getfield 32, 3) := by decide +kernel
theorem dX4_advance_128 : decode cX4_advance 128 = .ok (.iaload, 1) := by decide +kernel
theorem dX4_advance_129 : decode cX4_advance 129 = .ok (.iconst 1, 1) := by decide +kernel
theorem dX4_advance_130 : decode cX4_advance 130 = .ok (.if_icmp .ne 110, 3) := by decide +kernel
theorem dX4_advance_133 : decode cX4_advance 133 = .ok (.aload_n 0, 1) := by decide +kernel
theorem dX4_advance_134 : decode cX4_advance 134 = .ok (.dup, 1) := by decide +kernel
theorem dX4_advance_135 : decode cX4_advance 135 = .ok (.getfield 32, 3) := by decide +kernel
theorem dX4_advance_138 : decode cX4_advance 138 = .ok (.iconst 1, 1) := by decide +kernel
theorem dX4_advance_139 : decode cX4_advance 139 = .ok (.iadd, 1) := by decide +kernel
theorem dX4_advance_140 : decode cX4_advance 140 = .ok (.putfield 32, 3) := by decide +kernel
theorem dX4_advance_143 : decode cX4_advance 143 = .ok (.goto (-34), 3) := by decide +kernel
theorem dX4_advance_146 : decode cX4_advance 146 = .ok (.aload_n 0, 1) := by decide +kernel
theorem dX4_advance_147 : decode cX4_advance 147 = .ok (.getfield 42, 3) := by decide +kernel
theorem dX4_advance_150 : decode cX4_advance 150 = .ok (.iconst 2, 1) := by decide +kernel
theorem dX4_advance_151 : decode cX4_advance 151 = .ok (.if_icmp .ne 89, 3) := by decide +kernel
theorem dX4_advance_154 : decode cX4_advance 154 = .ok (.aload_n 0, 1) := by decide +kernel
theorem dX4_advance_155 : decode cX4_advance 155 = .ok (.aload_n 0, 1) := by decide +kernel
theorem dX4_advance_156 : decode cX4_advance 156 = .ok (.getfield 11, 3) := by decide +kernel
theorem dX4_advance_159 : decode cX4_advance 159 = .ok (.aload_n 0, 1) := by decide +kernel
theorem dX4_advance_160 : decode cX4_advance 160 = .ok (.getfield 49, 3) := by decide +kernel
theorem dX4_advance_163 : decode cX4_advance 163 = .ok (.iaload, 1) := by decide +kernel
theorem dX4_advance_164 : decode cX4_advance 164 = .ok (.bipush 48, 2) := by decide +kernel
theorem dX4_advance_166 : decode cX4_advance 166 = .ok (.isub, 1) := by decide +kernel
theorem dX4_advance_167 : decode cX4_advance 167 = .ok (.putfield 56, 3) := by decide +kernel
theorem dX4_advance_170 : decode cX4_advance 170 = .ok (.aload_n 0, 1) := by decide +kernel
theorem dX4_advance_171 : decode cX4_advance 171 = .ok (.getfield 32, 3) := by decide +kernel
theorem dX4_advance_174 : decode cX4_advance 174 = .ok (.aload_n 0, 1) := by decide +kernel
theorem dX4_advance_175 : decode cX4_advance 175 = .ok (.getfield 22, 3) := by decide +kernel
theorem dX4_advance_178 : decode cX4_advance 178 = .ok (.if_icmp .ge 62, 3) := by decide +kernel
theorem dX4_advance_181 : decode cX4_advance 181 = .ok (.aload_n 0, 1) := by decide +kernel
theorem dX4_advance_182 : decode cX4_advance 182 = .ok (.getfield 15, 3) := by decide +kernel
theorem dX4_advance_185 : decode cX4_advance 185 = .ok (.aload_n 0, 1) := by decide +kernel
theorem dX4_advance_186 : decode cX4_advance 186 = .ok (.getfield 32, 3) := by decide +kernel
theorem dX4_advance_189 : decode cX4_advance 189 = .ok (.iaload, 1) := by decide +kernel
theorem dX4_advance_190 : decode cX4_advance 190 = .ok (.iconst 2, 1) := by decide +kernel
theorem dX4_advance_191 : decode cX4_advance 191 = .ok (.if_icmp .ne 49, 3) := by decide +kernel
theorem dX4_advance_194 : decode cX4_advance 194 = .ok (.aload_n 0, 1) := by decide +kernel
theorem dX4_advance_195 : decode cX4_advance 195 = .ok (.getfield 56, 3) := by decide +kernel
theorem dX4_advance_198 : decode cX4_advance 198 = .ok (.ldc 75, 2) := by decide +kernel
theorem dX4_advance_200 : decode cX4_advance 200 = .ok (.if_icmp .ge 27, 3) := by decide +kernel
theorem dX4_advance_203 : decode cX4_advance 203 = .ok (.aload_n 0, 1) := by decide +kernel
theorem dX4_advance_204 : decode cX4_advance 204 = .ok (.aload_n 0, 1) := by decide +kernel
theorem dX4_advance_205 : decode cX4_advance 205 = .ok (.getfield 56, 3) := by decide +kernel
theorem dX4_advance_208 : decode cX4_advance 208 = .ok (.bipush 10, 2) := by decide +kernel
theorem dX4_advance_210 : decode cX4_advance 210 = .ok (.imul, 1) := by decide +kernel
theorem dX4_advance_211 : decode cX4_advance 211 = .ok (.aload_n 0, 1) := by decide +kernel
theorem dX4_advance_212 : decode cX4_advance 212 = .ok (.getfield 11, 3) := by decide +kernel
theorem dX4_advance_215 : decode cX4_advance 215 = .ok (.aload_n 0, 1) := by decide +kernel
theorem dX4_advance_216 : decode cX4_advance 216 = .ok (.getfield 32, 3) := by decide +kernel
theorem dX4_advance_219 : decode cX4_advance 219 = .ok (.iaload, 1) := by decide +kernel
theorem dX4_advance_220 : decode cX4_advance 220 = .ok (.iadd, 1) := by decide +kernel
theorem dX4_advance_221 : decode cX4_advance 221 = .ok (.bipush 48, 2) := by decide +kernel
theorem dX4_advance_223 : decode cX4_advance 223 = .ok (.isub, 1) := by decide +kernel
theorem dX4_advance_224 : decode cX4_advance 224 = .ok (.putfield 56, 3) := by decide +kernel
theorem dX4_advance_227 : decode cX4_advance 227 = .ok (.aload_n 0, 1) := by decide +kernel
theorem dX4_advance_228 : decode cX4_advance 228 = .ok (.dup, 1) := by decide +kernel
theorem dX4_advance_229 : decode cX4_advance 229 = .ok (.getfield 32, 3) := by decide +kernel
theorem dX4_advance_232 : decode cX4_advance 232 = .ok (.iconst 1, 1) := by decide +kernel
theorem dX4_advance_233 : decode cX4_advance 233 = .ok (.iadd, 1) := by decide +kernel
theorem dX4_advance_234 : decode cX4_advance 234 = .ok (.putfield 32, 3) := by decide +kernel
theorem dX4_advance_237 : decode cX4_advance 237 = .ok (.goto (-67), 3) := by decide +kernel
theorem dX4_advance_240 : decode cX4_advance 240 = .ok (.return_, 1) := by decide +kernel
theorem dX5_init_0 : decode cX5_init 0 = .ok (.aload_n 0, 1) := by decide +kernel
theorem dX5_init_1 : decode cX5_init 1 = .ok (.invokespecial 3, 3) := by decide +kernel
theorem dX5_init_4 : decode cX5_init 4 = .ok (.aload_n 0, 1) := by decide +kernel
theorem dX5_init_5 : decode cX5_init 5 = .ok (.bipush 40, 2) := by decide +kernel
theorem dX5_init_7 : decode cX5_init 7 = .ok (.newarray .int, 2) := by decide +kernel
theorem dX5_init_9 : decode cX5_init 9 = .ok (.putfield 11, 3) := by decide +kernel
theorem dX5_init_12 : decode cX5_init 12 = .ok (.aload_n 0, 1) := by decide +kernel
theorem dX5_init_13 : decode cX5_init 13 = .ok (.bipush 40, 2) := by decide +kernel
theorem dX5_init_15 : decode cX5_init 15 = .ok (.newarray .int, 2) := by decide +kernel
theorem dX5_init_17 : decode cX5_init 17 = .ok (.putfield 15, 3) := by decide +kernel
theorem dX5_init_20 : decode cX5_init 20 = .ok (.return_, 1) := by decide +kernel
theorem dX5_readCommands_0 : decode cX5_readCommands 0 = .ok (.aload_n 0, 1) := by decide +kernel
theorem dX5_readCommands_1 : decode cX5_readCommands 1 = .ok (.iconst 0, 1) := by decide +kernel
theorem dX5_readCommands_2 : decode cX5_readCommands 2 = .ok (.putfield 18, 3) := by decide +kernel
theorem dX5_readCommands_5 : decode cX5_readCommands 5 = .ok (.aload_n 1, 1) := by decide +kernel
theorem dX5_readCommands_6 : decode cX5_readCommands 6 = .ok (.invokevirtual 22, 3) := by decide +kernel
theorem dX5_readCommands_9 : decode cX5_readCommands 9 = .ok (.iconst 0, 1) := by decide +kernel
theorem dX5_readCommands_10 : decode cX5_readCommands 10 = .ok (.istore 4, 2) := by decide +kernel
theorem dX5_readCommands_12 : decode cX5_readCommands 12 = .ok (.iload 4, 2) := by decide +kernel
theorem dX5_readCommands_14 : decode cX5_readCommands 14 = .ok (.sipush 600, 3) := by decide +kernel
theorem dX5_readCommands_17 : decode cX5_readCommands 17 = .ok (.if_icmp .ge 23, 3) := by decide +kernel
theorem dX5_readCommands_20 : decode cX5_readCommands 20 = .ok (.aload_n 1, 1) := by decide +kernel
theorem dX5_readCommands_21 : decode cX5_readCommands 21 = .ok (.invokevirtual 27, 3) := by decide +kernel
theorem dX5_readCommands_24 : decode cX5_readCommands 24 = .ok (.ifCond .eq 16, 3) := by decide +kernel
theorem dX5_readCommands_27 : decode cX5_readCommands 27 = .ok (.aload_n 0, 1) := by decide +kernel
theorem dX5_readCommands_28 : decode cX5_readCommands 28 = .ok (.aload_n 1, 1) := by decide +kernel
theorem dX5_readCommands_29 : decode cX5_readCommands 29 = .ok (.iload_n 2, 1) := by decide +kernel
theorem dX5_readCommands_30 : decode cX5_readCommands 30 = .ok (.iload_n 3, 1) := by decide +kernel
theorem dX5_readCommands_31 : decode cX5_readCommands 31 = .ok (.invokevirtual 31, 3) := by decide +kernel
theorem dX5_readCommands_34 : decode cX5_readCommands 34 = .ok (.iinc 4 1, 3) := by decide +kernel
theorem dX5_readCommands_37 : decode cX5_readCommands 37 = .ok (.goto (-25), 3) := by decide +kernel
theorem dX5_readCommands_40 : decode cX5_readCommands 40 = .ok (.aload_n 1, 1) := by decide +kernel
theorem dX5_readCommands_41 : decode cX5_readCommands 41 = .ok (.invokevirtual 35, 3) := by decide +kernel
theorem dX5_readCommands_44 : decode cX5_readCommands 44 = .ok (.ifCond .ne 7, 3) := by decide +kernel
theorem dX5_readCommands_47 : decode cX5_readCommands 47 = .ok (.iconst 1, 1) := by decide +kernel
theorem dX5_readCommands_48 : decode cX5_readCommands 48 = .ok (.goto 4, 3) := by decide +kernel
theorem dX5_readCommands_51 : decode cX5_readCommands 51 = .ok (.iconst 0, 1) := by decide +kernel
theorem dX5_readCommands_52 : decode cX5_readCommands 52 = .ok (.ireturn, 1) := by decide +kernel
theorem dX5_readCommand_0 : decode cX5_readCommand 0 = .ok (.aload_n 0, 1) := by decide +kernel
theorem dX5_readCommand_1 : decode cX5_readCommand 1 = .ok (.aload_n 1, 1) := by decide +kernel
theorem dX5_readCommand_2 : decode cX5_readCommand 2 = .ok (.invokevirtual 38, 3) := by decide +kernel
theorem dX5_readCommand_5 : decode cX5_readCommand 5 = .ok (.istore 4, 2) := by decide +kernel
theorem dX5_readCommand_7 : decode cX5_readCommand 7 = .ok (.aload_n 0, 1) := by decide +kernel
theorem dX5_readCommand_8 : decode cX5_readCommand 8 = .ok (.getfield 18, 3) := by decide +kernel
theorem dX5_readCommand_11 : decode cX5_readCommand 11 = .ok (.bipush 40, 2) := by decide +kernel
theorem dX5_readCommand_13 : decode cX5_readCommand 13 = .ok (.if_icmp .lt 8, 3) := by decide +kernel
theorem dX5_readCommand_16 : decode cX5_readCommand 16 = .ok (.aload_n 1, 1) := by decide +kernel
theorem dX5_readCommand_17 : decode cX5_readCommand 17 = .ok (.iconst 4, 1) := by decide +kernel
theorem dX5_readCommand_18 : decode cX5_readCommand 18 = .ok (.invokevirtual 42, 3) := by decide +kernel
theorem dX5_readCommand_21 : decode cX5_readCommand 21 = .ok (.aload_n 0, 1) := by decide +kernel
theorem dX5_readCommand_22 : decode cX5_readCommand 22 = .ok (.aload_n 1, 1) := by decide +kernel
theorem dX5_readCommand_23 : decode cX5_readCommand 23 = .ok (.iload 4, 2) := by decide +kernel
theorem dX5_readCommand_25 : decode cX5_readCommand 25 = .ok (.iload_n 2, 1) := by decide +kernel
theorem dX5_readCommand_26 : decode cX5_readCommand 26 = .ok (.iload_n 3, 1) := by decide +kernel
theorem dX5_readCommand_27 : decode cX5_readCommand 27 = .ok (.invokevirtual 46, 3) := by decide +kernel
theorem dX5_readCommand_30 : decode cX5_readCommand 30 = .ok (.istore 5, 2) := by decide +kernel
theorem dX5_readCommand_32 : decode cX5_readCommand 32 = .ok (.aload_n 1, 1) := by decide +kernel
theorem dX5_readCommand_33 : decode cX5_readCommand 33 = .ok (.invokevirtual 50, 3) := by decide +kernel
theorem dX5_readCommand_36 : decode cX5_readCommand 36 = .ok (.aload_n 1, 1) := by decide +kernel
theorem dX5_readCommand_37 : decode cX5_readCommand 37 = .ok (.invokevirtual 35, 3) := by decide +kernel
theorem dX5_readCommand_40 : decode cX5_readCommand 40 = .ok (.ifCond .ne 44, 3) := by decide +kernel
theorem dX5_readCommand_43 : decode cX5_readCommand 43 = .ok (.aload_n 0, 1) := by decide +kernel
theorem dX5_readCommand_44 : decode cX5_readCommand 44 = .ok (.getfield 18, 3) := by decide +kernel
theorem dX5_readCommand_47 : decode cX5_readCommand 47 = .ok (.bipush 40, 2) := by decide +kernel
theorem dX5_readCommand_49 : decode cX5_readCommand 49 = .ok (.if_icmp .ge 35, 3) := by decide +kernel
theorem dX5_readCommand_52 : decode cX5_readCommand 52 = .ok (.aload_n 0, 1) := by decide +kernel
theorem dX5_readCommand_53 : decode cX5_readCommand 53 = .ok (.getfield 11, 3) := by decide +kernel
theorem dX5_readCommand_56 : decode cX5_readCommand 56 = .ok (.aload_n 0, 1) := by decide +kernel
theorem dX5_readCommand_57 : decode cX5_readCommand 57 = .ok (.getfield 18, 3) := by decide +kernel
theorem dX5_readCommand_60 : decode cX5_readCommand 60 = .ok (.iload 4, 2) := by decide +kernel
theorem dX5_readCommand_62 : decode cX5_readCommand 62 = .ok (.iastore, 1) := by decide +kernel
theorem dX5_readCommand_63 : decode cX5_readCommand 63 = .ok (.aload_n 0, 1) := by decide +kernel
theorem dX5_readCommand_64 : decode cX5_readCommand 64 = .ok (.getfield 15, 3) := by decide +kernel
theorem dX5_readCommand_67 : decode cX5_readCommand 67 = .ok (.aload_n 0, 1) := by decide +kernel
theorem dX5_readCommand_68 : decode cX5_readCommand 68 = .ok (.getfield 18, 3) := by decide +kernel
theorem dX5_readCommand_71 : decode cX5_readCommand 71 = .ok (.iload 5, 2) := by decide +kernel
theorem dX5_readCommand_73 : decode cX5_readCommand 73 = .ok (.iastore, 1) := by decide +kernel
theorem dX5_readCommand_74 : decode cX5_readCommand 74 = .ok (.aload_n 0, 1) := by decide +kernel
theorem dX5_readCommand_75 : decode cX5_readCommand 75 = .ok (.dup, 1) := by decide +kernel
theorem dX5_readCommand_76 : decode cX5_readCommand 76 = .ok (.getfield 18, 3) := by decide +kernel
theorem dX5_readCommand_79 : decode cX5_readCommand 79 = .ok (.iconst 1, 1) := by decide +kernel
theorem dX5_readCommand_80 : decode cX5_readCommand 80 = .ok (.iadd, 1) := by decide +kernel
theorem dX5_readCommand_81 : decode cX5_readCommand 81 = .ok (.putfield 18, 3) := by decide +kernel
theorem dX5_readCommand_84 : decode cX5_readCommand 84 = .ok (.return_, 1) := by decide +kernel
theorem dX5_takeKind_0 : decode cX5_takeKind 0 = .ok (.aload_n 1, 1) := by decide +kernel
theorem dX5_takeKind_1 : decode cX5_takeKind 1 = .ok (.ldc 53, 2) := by decide +kernel
theorem dX5_takeKind_3 : decode cX5_takeKind 3 = .ok (.invokevirtual 55, 3) := by decide +kernel
theorem dX5_takeKind_6 : decode cX5_takeKind 6 = .ok (.ifCond .eq 5, 3) := by decide +kernel
theorem dX5_takeKind_9 : decode cX5_takeKind 9 = .ok (.iconst 0, 1) := by decide +kernel
theorem dX5_takeKind_10 : decode cX5_takeKind 10 = .ok (.ireturn, 1) := by decide +kernel
theorem dX5_takeKind_11 : decode cX5_takeKind 11 = .ok (.aload_n 1, 1) := by decide +kernel
theorem dX5_takeKind_12 : decode cX5_takeKind 12 = .ok (.ldc 59, 2) := by decide +kernel
theorem dX5_takeKind_14 : decode cX5_takeKind 14 = .ok (.invokevirtual 55, 3) := by decide +kernel
theorem dX5_takeKind_17 : decode cX5_takeKind 17 = .ok (.ifCond .eq 5, 3) := by decide +kernel
theorem dX5_takeKind_20 : decode cX5_takeKind 20 = .ok (.iconst 1, 1) := by decide +kernel
theorem dX5_takeKind_21 : decode cX5_takeKind 21 = .ok (.ireturn, 1) := by decide +kernel
theorem dX5_takeKind_22 : decode cX5_takeKind 22 = .ok (.aload_n 1, 1) := by decide +kernel
theorem dX5_takeKind_23 : decode cX5_takeKind 23 = .ok (.ldc 61, 2) := by decide +kernel
theorem dX5_takeKind_25 : decode cX5_takeKind 25 = .ok (.invokevirtual 55, 3) := by decide +kernel
theorem dX5_takeKind_28 : decode cX5_takeKind 28 = .ok (.ifCond .eq 5, 3) := by decide +kernel
theorem dX5_takeKind_31 : decode cX5_takeKind 31 = .ok (.iconst 2, 1) := by decide +kernel
theorem dX5_takeKind_32 : decode cX5_takeKind 32 = .ok (.ireturn, 1) := by decide +kernel
theorem dX5_takeKind_33 : decode cX5_takeKind 33 = .ok (.aload_n 1, 1) := by decide +kernel
theorem dX5_takeKind_34 : decode cX5_takeKind 34 = .ok (.ldc 63, 2) := by decide +kernel
theorem dX5_takeKind_36 : decode cX5_takeKind 36 = .ok (.invokevirtual 55, 3) := by decide +kernel
theorem dX5_takeKind_39 : decode cX5_takeKind 39 = .ok (.ifCond .eq 5, 3) := by decide +kernel
theorem dX5_takeKind_42 : decode cX5_takeKind 42 = .ok (.iconst 3, 1) := by decide +kernel
theorem dX5_takeKind_43 : decode cX5_takeKind 43 = .ok (.ireturn, 1) := by decide +kernel
theorem dX5_takeKind_44 : decode cX5_takeKind 44 = .ok (.aload_n 1, 1) := by decide +kernel
theorem dX5_takeKind_45 : decode cX5_takeKind 45 = .ok (.ldc 65, 2) := by decide +kernel
theorem dX5_takeKind_47 : decode cX5_takeKind 47 = .ok (.invokevirtual 55, 3) := by decide +kernel
theorem dX5_takeKind_50 : decode cX5_takeKind 50 = .ok (.ifCond .eq 5, 3) := by decide +kernel
theorem dX5_takeKind_53 : decode cX5_takeKind 53 = .ok (.iconst 4, 1) := by decide +kernel
theorem dX5_takeKind_54 : decode cX5_takeKind 54 = .ok (.ireturn, 1) := by decide +kernel
theorem dX5_takeKind_55 : decode cX5_takeKind 55 = .ok (.aload_n 1, 1) := by decide +kernel
theorem dX5_takeKind_56 : decode cX5_takeKind 56 = .ok (.ldc 67, 2) := by decide +kernel
theorem dX5_takeKind_58 : decode cX5_takeKind 58 = .ok (.invokevirtual 55, 3) := by decide +kernel
theorem dX5_takeKind_61 : decode cX5_takeKind 61 = .ok (.ifCond .eq 5, 3) := by decide +kernel
theorem dX5_takeKind_64 : decode cX5_takeKind 64 = .ok (.iconst 5, 1) := by decide +kernel
theorem dX5_takeKind_65 : decode cX5_takeKind 65 = .ok (.ireturn, 1) := by decide +kernel
theorem dX5_takeKind_66 : decode cX5_takeKind 66 = .ok (.aload_n 1, 1) := by decide +kernel
theorem dX5_takeKind_67 : decode cX5_takeKind 67 = .ok (.iconst 1, 1) := by decide +kernel
theorem dX5_takeKind_68 : decode cX5_takeKind 68 = .ok (.invokevirtual 69, 3) := by decide +kernel
theorem dX5_takeKind_71 : decode cX5_takeKind 71 = .ok (.iconst (-1), 1) := by decide +kernel
theorem dX5_takeKind_72 : decode cX5_takeKind 72 = .ok (.ireturn, 1) := by decide +kernel
theorem dX5_takeArgument_0 : decode cX5_takeArgument 0 = .ok (.iload_n 2, 1) := by decide +kernel
theorem dX5_takeArgument_1 : decode cX5_takeArgument 1 = .ok (.tableswitch 83 0 5 #[39, 48, 57, 83, 66, 76], 39) := by decide +kernel
theorem dX5_takeArgument_40 : decode cX5_takeArgument 40 = .ok (.aload_n 1, 1) := by decide +kernel
theorem dX5_takeArgument_41 : decode cX5_takeArgument 41 = .ok (.iconst 1, 1) := by decide +kernel
theorem dX5_takeArgument_42 : decode cX5_takeArgument 42 = .ok (.sipush 200, 3) := by decide +kernel
theorem dX5_takeArgument_45 : decode cX5_takeArgument 45 = .ok (.invokevirtual 72, 3) := by decide +kernel
theorem dX5_takeArgument_48 : decode cX5_takeArgument 48 = .ok (.ireturn, 1) := by decide +kernel
theorem dX5_takeArgument_49 : decode cX5_takeArgument 49 = .ok (.aload_n 1, 1) := by decide +kernel
theorem dX5_takeArgument_50 : decode cX5_takeArgument 50 = .ok (.iconst 0, 1) := by decide +kernel
theorem dX5_takeArgument_51 : decode cX5_takeArgument 51 = .ok (.sipush 30000, 3) := by decide +kernel
theorem dX5_takeArgument_54 : decode cX5_takeArgument 54 = .ok (.invokevirtual 72, 3) := by decide +kernel
theorem dX5_takeArgument_57 : decode cX5_takeArgument 57 = .ok (.ireturn, 1) := by decide +kernel
theorem dX5_takeArgument_58 : decode cX5_takeArgument 58 = .ok (.aload_n 1, 1) := by decide +kernel
theorem dX5_takeArgument_59 : decode cX5_takeArgument 59 = .ok (.iconst 0, 1) := by decide +kernel
theorem dX5_takeArgument_60 : decode cX5_takeArgument 60 = .ok (.iload_n 3, 1) := by decide +kernel
theorem dX5_takeArgument_61 : decode cX5_takeArgument 61 = .ok (.iconst 1, 1) := by decide +kernel
theorem dX5_takeArgument_62 : decode cX5_takeArgument 62 = .ok (.isub, 1) := by decide +kernel
theorem dX5_takeArgument_63 : decode cX5_takeArgument 63 = .ok (.invokevirtual 72, 3) := by decide +kernel
theorem dX5_takeArgument_66 : decode cX5_takeArgument 66 = .ok (.ireturn, 1) := by decide +kernel
theorem dX5_takeArgument_67 : decode cX5_takeArgument 67 = .ok (.aload_n 1, 1) := by decide +kernel
theorem dX5_takeArgument_68 : decode cX5_takeArgument 68 = .ok (.iconst 0, 1) := by decide +kernel
theorem dX5_takeArgument_69 : decode cX5_takeArgument 69 = .ok (.iload 4, 2) := by decide +kernel
theorem dX5_takeArgument_71 : decode cX5_takeArgument 71 = .ok (.iconst 1, 1) := by decide +kernel
theorem dX5_takeArgument_72 : decode cX5_takeArgument 72 = .ok (.isub, 1) := by decide +kernel
theorem dX5_takeArgument_73 : decode cX5_takeArgument 73 = .ok (.invokevirtual 72, 3) := by decide +kernel
theorem dX5_takeArgument_76 : decode cX5_takeArgument 76 = .ok (.ireturn, 1) := by decide +kernel
theorem dX5_takeArgument_77 : decode cX5_takeArgument 77 = .ok (.aload_n 1, 1) := by decide +kernel
theorem dX5_takeArgument_78 : decode cX5_takeArgument 78 = .ok (.bipush 9, 2) := by decide +kernel
theorem dX5_takeArgument_80 : decode cX5_takeArgument 80 = .ok (.invokevirtual 76, 3) := by decide +kernel
theorem dX5_takeArgument_83 : decode cX5_takeArgument 83 = .ok (.ireturn, 1) := by decide +kernel
theorem dX5_takeArgument_84 : decode cX5_takeArgument 84 = .ok (.iconst 0, 1) := by decide +kernel
theorem dX5_takeArgument_85 : decode cX5_takeArgument 85 = .ok (.ireturn, 1) := by decide +kernel
theorem dX6_init_0 : decode cX6_init 0 = .ok (.aload_n 0, 1) := by decide +kernel
theorem dX6_init_1 : decode cX6_init 1 = .ok (.invokespecial 3, 3) := by decide +kernel
theorem dX6_init_4 : decode cX6_init 4 = .ok (.aload_n 0, 1) := by decide +kernel
theorem dX6_init_5 : decode cX6_init 5 = .ok (.new 9, 3) := by decide +kernel
theorem dX6_init_8 : decode cX6_init 8 = .ok (.dup, 1) := by decide +kernel
theorem dX6_init_9 : decode cX6_init 9 = .ok (.invokespecial 11, 3) := by decide +kernel
theorem dX6_init_12 : decode cX6_init 12 = .ok (.putfield 12, 3) := by decide +kernel
theorem dX6_init_15 : decode cX6_init 15 = .ok (.return_, 1) := by decide +kernel
theorem dX6_readSetup_0 : decode cX6_readSetup 0 = .ok (.aload_n 1, 1) := by decide +kernel
theorem dX6_readSetup_1 : decode cX6_readSetup 1 = .ok (.invokevirtual 18, 3) := by decide +kernel
theorem dX6_readSetup_4 : decode cX6_readSetup 4 = .ok (.aload_n 1, 1) := by decide +kernel
theorem dX6_readSetup_5 : decode cX6_readSetup 5 = .ok (.ldc 23, 2) := by decide +kernel
theorem dX6_readSetup_7 : decode cX6_readSetup 7 = .ok (.invokevirtual 25, 3) := by decide +kernel
theorem dX6_readSetup_10 : decode cX6_readSetup 10 = .ok (.aload_n 1, 1) := by decide +kernel
theorem dX6_readSetup_11 : decode cX6_readSetup 11 = .ok (.iconst 1, 1) := by decide +kernel
theorem dX6_readSetup_12 : decode cX6_readSetup 12 = .ok (.sipush 30000, 3) := by decide +kernel
theorem dX6_readSetup_15 : decode cX6_readSetup 15 = .ok (.invokevirtual 29, 3) := by decide +kernel
theorem dX6_readSetup_18 : decode cX6_readSetup 18 = .ok (.istore_n 2, 1) := by decide +kernel
theorem dX6_readSetup_19 : decode cX6_readSetup 19 = .ok (.aload_n 1, 1) := by decide +kernel
theorem dX6_readSetup_20 : decode cX6_readSetup 20 = .ok (.iconst 0, 1) := by decide +kernel
theorem dX6_readSetup_21 : decode cX6_readSetup 21 = .ok (.sipush 400, 3) := by decide +kernel
theorem dX6_readSetup_24 : decode cX6_readSetup 24 = .ok (.invokevirtual 29, 3) := by decide +kernel
theorem dX6_readSetup_27 : decode cX6_readSetup 27 = .ok (.istore_n 3, 1) := by decide +kernel
theorem dX6_readSetup_28 : decode cX6_readSetup 28 = .ok (.aload_n 1, 1) := by decide +kernel
theorem dX6_readSetup_29 : decode cX6_readSetup 29 = .ok (.iconst 1, 1) := by decide +kernel
theorem dX6_readSetup_30 : decode cX6_readSetup 30 = .ok (.bipush 99, 2) := by decide +kernel
theorem dX6_readSetup_32 : decode cX6_readSetup 32 = .ok (.invokevirtual 29, 3) := by decide +kernel
theorem dX6_readSetup_35 : decode cX6_readSetup 35 = .ok (.istore 4, 2) := by decide +kernel
theorem dX6_readSetup_37 : decode cX6_readSetup 37 = .ok (.aload_n 1, 1) := by decide +kernel
theorem dX6_readSetup_38 : decode cX6_readSetup 38 = .ok (.invokevirtual 33, 3) := by decide +kernel
theorem dX6_readSetup_41 : decode cX6_readSetup 41 = .ok (.aload_n 1, 1) := by decide +kernel
theorem dX6_readSetup_42 : decode cX6_readSetup 42 = .ok (.invokevirtual 36, 3) := by decide +kernel
theorem dX6_readSetup_45 : decode cX6_readSetup 45 = .ok (.ifCond .eq 5, 3) := by decide +kernel
theorem dX6_readSetup_48 : decode cX6_readSetup 48 = .ok (.iconst 0, 1) := by decide +kernel
theorem dX6_readSetup_49 : decode cX6_readSetup 49 = .ok (.ireturn, 1) := by decide +kernel
theorem dX6_readSetup_50 : decode cX6_readSetup 50 = .ok (.aload_n 0, 1) := by decide +kernel
theorem dX6_readSetup_51 : decode cX6_readSetup 51 = .ok (.getfield 12, 3) := by decide +kernel
theorem dX6_readSetup_54 : decode cX6_readSetup 54 = .ok (.iload_n 2, 1) := by decide +kernel
theorem dX6_readSetup_55 : decode cX6_readSetup 55 = .ok (.iload_n 3, 1) := by decide +kernel
theorem dX6_readSetup_56 : decode cX6_readSetup 56 = .ok (.iload 4, 2) := by decide +kernel
theorem dX6_readSetup_58 : decode cX6_readSetup 58 = .ok (.invokevirtual 40, 3) := by decide +kernel
theorem dX6_readSetup_61 : decode cX6_readSetup 61 = .ok (.iconst 0, 1) := by decide +kernel
theorem dX6_readSetup_62 : decode cX6_readSetup 62 = .ok (.istore 5, 2) := by decide +kernel
theorem dX6_readSetup_64 : decode cX6_readSetup 64 = .ok (.iload 5, 2) := by decide +kernel
theorem dX6_readSetup_66 : decode cX6_readSetup 66 = .ok (.sipush 600, 3) := by decide +kernel
theorem dX6_readSetup_69 : decode cX6_readSetup 69 = .ok (.if_icmp .ge 25, 3) := by decide +kernel
theorem dX6_readSetup_72 : decode cX6_readSetup 72 = .ok (.aload_n 1, 1) := by decide +kernel
theorem dX6_readSetup_73 : decode cX6_readSetup 73 = .ok (.invokevirtual 43, 3) := by decide +kernel
theorem dX6_readSetup_76 : decode cX6_readSetup 76 = .ok (.ifCond .eq 18, 3) := by decide +kernel
theorem dX6_readSetup_79 : decode cX6_readSetup 79 = .ok (.aload_n 0, 1) := by decide +kernel
theorem dX6_readSetup_80 : decode cX6_readSetup 80 = .ok (.aload_n 1, 1) := by decide +kernel
theorem dX6_readSetup_81 : decode cX6_readSetup 81 = .ok (.invokevirtual 46, 3) := by decide +kernel
theorem dX6_readSetup_84 : decode cX6_readSetup 84 = .ok (.aload_n 1, 1) := by decide +kernel
theorem dX6_readSetup_85 : decode cX6_readSetup 85 = .ok (.invokevirtual 33, 3) := by decide +kernel
theorem dX6_readSetup_88 : decode cX6_readSetup 88 = .ok (.iinc 5 1, 3) := by decide +kernel
theorem dX6_readSetup_91 : decode cX6_readSetup 91 = .ok (.goto (-27), 3) := by decide +kernel
theorem dX6_readSetup_94 : decode cX6_readSetup 94 = .ok (.aload_n 1, 1) := by decide +kernel
theorem dX6_readSetup_95 : decode cX6_readSetup 95 = .ok (.invokevirtual 36, 3) := by decide +kernel
theorem dX6_readSetup_98 : decode cX6_readSetup 98 = .ok (.ifCond .ne 7, 3) := by decide +kernel
theorem dX6_readSetup_101 : decode cX6_readSetup 101 = .ok (.iconst 1, 1) := by decide +kernel
theorem dX6_readSetup_102 : decode cX6_readSetup 102 = .ok (.goto 4, 3) := by decide +kernel
theorem dX6_readSetup_105 : decode cX6_readSetup 105 = .ok (.iconst 0, 1) := by decide +kernel
theorem dX6_readSetup_106 : decode cX6_readSetup 106 = .ok (.ireturn, 1) := by decide +kernel
theorem dX6_readStatement_0 : decode cX6_readStatement 0 = .ok (.aload_n 1, 1) := by decide +kernel
theorem dX6_readStatement_1 : decode cX6_readStatement 1 = .ok (.ldc 50, 2) := by decide +kernel
theorem dX6_readStatement_3 : decode cX6_readStatement 3 = .ok (.invokevirtual 52, 3) := by decide +kernel
theorem dX6_readStatement_6 : decode cX6_readStatement 6 = .ok (.ifCond .eq 11, 3) := by decide +kernel
theorem dX6_readStatement_9 : decode cX6_readStatement 9 = .ok (.aload_n 0, 1) := by decide +kernel
theorem dX6_readStatement_10 : decode cX6_readStatement 10 = .ok (.aload_n 1, 1) := by decide +kernel
theorem dX6_readStatement_11 : decode cX6_readStatement 11 = .ok (.invokevirtual 56, 3) := by decide +kernel
theorem dX6_readStatement_14 : decode cX6_readStatement 14 = .ok (.goto 102, 3) := by decide +kernel
theorem dX6_readStatement_17 : decode cX6_readStatement 17 = .ok (.aload_n 1, 1) := by decide +kernel
theorem dX6_readStatement_18 : decode cX6_readStatement 18 = .ok (.ldc 59, 2) := by decide +kernel
theorem dX6_readStatement_20 : decode cX6_readStatement 20 = .ok (.invokevirtual 52, 3) := by decide +kernel
theorem dX6_readStatement_23 : decode cX6_readStatement 23 = .ok (.ifCond .eq 11, 3) := by decide +kernel
theorem dX6_readStatement_26 : decode cX6_readStatement 26 = .ok (.aload_n 0, 1) := by decide +kernel
theorem dX6_readStatement_27 : decode cX6_readStatement 27 = .ok (.aload_n 1, 1) := by decide +kernel
theorem dX6_readStatement_28 : decode cX6_readStatement 28 = .ok (.invokevirtual 61, 3) := by decide +kernel
theorem dX6_readStatement_31 : decode cX6_readStatement 31 = .ok (.goto 85, 3) := by decide +kernel
theorem dX6_readStatement_34 : decode cX6_readStatement 34 = .ok (.aload_n 1, 1) := by decide +kernel
theorem dX6_readStatement_35 : decode cX6_readStatement 35 = .ok (.ldc 64, 2) := by decide +kernel
theorem dX6_readStatement_37 : decode cX6_readStatement 37 = .ok (.invokevirtual 52, 3) := by decide +kernel
theorem dX6_readStatement_40 : decode cX6_readStatement 40 = .ok (.ifCond .eq 11, 3) := by decide +kernel
theorem dX6_readStatement_43 : decode cX6_readStatement 43 = .ok (.aload_n 0, 1) := by decide +kernel
theorem dX6_readStatement_44 : decode cX6_readStatement 44 = .ok (.aload_n 1, 1) := by decide +kernel
theorem dX6_readStatement_45 : decode cX6_readStatement 45 = .ok (.invokevirtual 66, 3) := by decide +kernel
theorem dX6_readStatement_48 : decode cX6_readStatement 48 = .ok (.goto 68, 3) := by decide +kernel
theorem dX6_readStatement_51 : decode cX6_readStatement 51 = .ok (.aload_n 1, 1) := by decide +kernel
theorem dX6_readStatement_52 : decode cX6_readStatement 52 = .ok (.ldc 69, 2) := by decide +kernel
theorem dX6_readStatement_54 : decode cX6_readStatement 54 = .ok (.invokevirtual 52, 3) := by decide +kernel
theorem dX6_readStatement_57 : decode cX6_readStatement 57 = .ok (.ifCond .eq 11, 3) := by decide +kernel
theorem dX6_readStatement_60 : decode cX6_readStatement 60 = .ok (.aload_n 0, 1) := by decide +kernel
theorem dX6_readStatement_61 : decode cX6_readStatement 61 = .ok (.aload_n 1, 1) := by decide +kernel
theorem dX6_readStatement_62 : decode cX6_readStatement 62 = .ok (.invokevirtual 71, 3) := by decide +kernel
theorem dX6_readStatement_65 : decode cX6_readStatement 65 = .ok (.goto 51, 3) := by decide +kernel
theorem dX6_readStatement_68 : decode cX6_readStatement 68 = .ok (.aload_n 1, 1) := by decide +kernel
theorem dX6_readStatement_69 : decode cX6_readStatement 69 = .ok (.ldc 74, 2) := by decide +kernel
theorem dX6_readStatement_71 : decode cX6_readStatement 71 = .ok (.invokevirtual 52, 3) := by decide +kernel
theorem dX6_readStatement_74 : decode cX6_readStatement 74 = .ok (.ifCond .eq 11, 3) := by decide +kernel
theorem dX6_readStatement_77 : decode cX6_readStatement 77 = .ok (.aload_n 0, 1) := by decide +kernel
theorem dX6_readStatement_78 : decode cX6_readStatement 78 = .ok (.aload_n 1, 1) := by decide +kernel
theorem dX6_readStatement_79 : decode cX6_readStatement 79 = .ok (.invokevirtual 76, 3) := by decide +kernel
theorem dX6_readStatement_82 : decode cX6_readStatement 82 = .ok (.goto 34, 3) := by decide +kernel
theorem dX6_readStatement_85 : decode cX6_readStatement 85 = .ok (.aload_n 1, 1) := by decide +kernel
theorem dX6_readStatement_86 : decode cX6_readStatement 86 = .ok (.ldc 79, 2) := by decide +kernel
theorem dX6_readStatement_88 : decode cX6_readStatement 88 = .ok (.invokevirtual 52, 3) := by decide +kernel
theorem dX6_readStatement_91 : decode cX6_readStatement 91 = .ok (.ifCond .eq 20, 3) := by decide +kernel
theorem dX6_readStatement_94 : decode cX6_readStatement 94 = .ok (.aload_n 0, 1) := by decide +kernel
theorem dX6_readStatement_95 : decode cX6_readStatement 95 = .ok (.getfield 12, 3) := by decide +kernel
theorem dX6_readStatement_98 : decode cX6_readStatement 98 = .ok (.aload_n 1, 1) := by decide +kernel
theorem dX6_readStatement_99 : decode cX6_readStatement 99 = .ok (.iconst 0, 1) := by decide +kernel
theorem dX6_readStatement_100 : decode cX6_readStatement 100 = .ok (.bipush 99, 2) := by decide +kernel
theorem dX6_readStatement_102 : decode cX6_readStatement 102 = .ok (.invokevirtual 29, 3) := by decide +kernel
theorem dX6_readStatement_105 : decode cX6_readStatement 105 = .ok (.putfield 81, 3) := by decide +kernel
theorem dX6_readStatement_108 : decode cX6_readStatement 108 = .ok (.goto 8, 3) := by decide +kernel
theorem dX6_readStatement_111 : decode cX6_readStatement 111 = .ok (.aload_n 1, 1) := by decide +kernel
theorem dX6_readStatement_112 : decode cX6_readStatement 112 = .ok (.iconst 1, 1) := by decide +kernel
theorem dX6_readStatement_113 : decode cX6_readStatement 113 = .ok (.invokevirtual 84, 3) := by decide +kernel
theorem dX6_readStatement_116 : decode cX6_readStatement 116 = .ok (.return_, 1) := by decide +kernel
theorem dX6_readLayer_0 : decode cX6_readLayer 0 = .ok (.aload_n 0, 1) := by decide +kernel
theorem dX6_readLayer_1 : decode cX6_readLayer 1 = .ok (.getfield 12, 3) := by decide +kernel
theorem dX6_readLayer_4 : decode cX6_readLayer 4 = .ok (.getfield 88, 3) := by decide +kernel
theorem dX6_readLayer_7 : decode cX6_readLayer 7 = .ok (.bipush 8, 2) := by decide +kernel
theorem dX6_readLayer_9 : decode cX6_readLayer 9 = .ok (.if_icmp .lt 9, 3) := by decide +kernel
theorem dX6_readLayer_12 : decode cX6_readLayer 12 = .ok (.aload_n 1, 1) := by decide +kernel
theorem dX6_readLayer_13 : decode cX6_readLayer 13 = .ok (.iconst 4, 1) := by decide +kernel
theorem dX6_readLayer_14 : decode cX6_readLayer 14 = .ok (.invokevirtual 91, 3) := by decide +kernel
theorem dX6_readLayer_17 : decode cX6_readLayer 17 = .ok (.return_, 1) := by decide +kernel
theorem dX6_readLayer_18 : decode cX6_readLayer 18 = .ok (.aload_n 0, 1) := by decide +kernel
theorem dX6_readLayer_19 : decode cX6_readLayer 19 = .ok (.getfield 12, 3) := by decide +kernel
theorem dX6_readLayer_22 : decode cX6_readLayer 22 = .ok (.getfield 94, 3) := by decide +kernel
theorem dX6_readLayer_25 : decode cX6_readLayer 25 = .ok (.aload_n 0, 1) := by decide +kernel
theorem dX6_readLayer_26 : decode cX6_readLayer 26 = .ok (.getfield 12, 3) := by decide +kernel
theorem dX6_readLayer_29 : decode cX6_readLayer 29 = .ok (.getfield 88, 3) := by decide +kernel
theorem dX6_readLayer_32 : decode cX6_readLayer 32 = .ok (.aaload, 1) := by decide +kernel
theorem dX6_readLayer_33 : decode cX6_readLayer 33 = .ok (.astore_n 2, 1) := by decide +kernel
theorem dX6_readLayer_34 : decode cX6_readLayer 34 = .ok (.aload_n 0, 1) := by decide +kernel
theorem dX6_readLayer_35 : decode cX6_readLayer 35 = .ok (.aload_n 1, 1) := by decide +kernel
theorem dX6_readLayer_36 : decode cX6_readLayer 36 = .ok (.aload_n 2, 1) := by decide +kernel
theorem dX6_readLayer_37 : decode cX6_readLayer 37 = .ok (.ldc 98, 2) := by decide +kernel
theorem dX6_readLayer_39 : decode cX6_readLayer 39 = .ok (.sipush 400, 3) := by decide +kernel
theorem dX6_readLayer_42 : decode cX6_readLayer 42 = .ok (.invokevirtual 100, 3) := by decide +kernel
theorem dX6_readLayer_45 : decode cX6_readLayer 45 = .ok (.aload_n 2, 1) := by decide +kernel
theorem dX6_readLayer_46 : decode cX6_readLayer 46 = .ok (.aload_n 1, 1) := by decide +kernel
theorem dX6_readLayer_47 : decode cX6_readLayer 47 = .ok (.ldc 104, 2) := by decide +kernel
theorem dX6_readLayer_49 : decode cX6_readLayer 49 = .ok (.invokevirtual 52, 3) := by decide +kernel
theorem dX6_readLayer_52 : decode cX6_readLayer 52 = .ok (.putfield 106, 3) := by decide +kernel
theorem dX6_readLayer_55 : decode cX6_readLayer 55 = .ok (.aload_n 0, 1) := by decide +kernel
theorem dX6_readLayer_56 : decode cX6_readLayer 56 = .ok (.getfield 12, 3) := by decide +kernel
theorem dX6_readLayer_59 : decode cX6_readLayer 59 = .ok (.dup, 1) := by decide +kernel
theorem dX6_readLayer_60 : decode cX6_readLayer 60 = .ok (.getfield 88, 3) := by decide +kernel
theorem dX6_readLayer_63 : decode cX6_readLayer 63 = .ok (.iconst 1, 1) := by decide +kernel
theorem dX6_readLayer_64 : decode cX6_readLayer 64 = .ok (.iadd, 1) := by decide +kernel
theorem dX6_readLayer_65 : decode cX6_readLayer 65 = .ok (.putfield 88, 3) := by decide +kernel
theorem dX6_readLayer_68 : decode cX6_readLayer 68 = .ok (.return_, 1) := by decide +kernel
theorem dX6_readReserve_0 : decode cX6_readReserve 0 = .ok (.aload_n 0, 1) := by decide +kernel
theorem dX6_readReserve_1 : decode cX6_readReserve 1 = .ok (.getfield 12, 3) := by decide +kernel
theorem dX6_readReserve_4 : decode cX6_readReserve 4 = .ok (.getfield 112, 3) := by decide +kernel
theorem dX6_readReserve_7 : decode cX6_readReserve 7 = .ok (.ifCond .eq 9, 3) := by decide +kernel
theorem dX6_readReserve_10 : decode cX6_readReserve 10 = .ok (.aload_n 1, 1) := by decide +kernel
theorem dX6_readReserve_11 : decode cX6_readReserve 11 = .ok (.iconst 3, 1) := by decide +kernel
theorem dX6_readReserve_12 : decode cX6_readReserve 12 = .ok (.invokevirtual 91, 3) := by decide +kernel
theorem dX6_readReserve_15 : decode cX6_readReserve 15 = .ok (.return_, 1) := by decide +kernel
theorem dX6_readReserve_16 : decode cX6_readReserve 16 = .ok (.aload_n 0, 1) := by decide +kernel
theorem dX6_readReserve_17 : decode cX6_readReserve 17 = .ok (.aload_n 1, 1) := by decide +kernel
theorem dX6_readReserve_18 : decode cX6_readReserve 18 = .ok (.aload_n 0, 1) := by decide +kernel
theorem dX6_readReserve_19 : decode cX6_readReserve 19 = .ok (.getfield 12, 3) := by decide +kernel
theorem dX6_readReserve_22 : decode cX6_readReserve 22 = .ok (.getfield 115, 3) := by decide +kernel
theorem dX6_readReserve_25 : decode cX6_readReserve 25 = .ok (.ldc 118, 2) := by decide +kernel
theorem dX6_readReserve_27 : decode cX6_readReserve 27 = .ok (.bipush 8, 2) := by decide +kernel
theorem dX6_readReserve_29 : decode cX6_readReserve 29 = .ok (.invokevirtual 100, 3) := by decide +kernel
theorem dX6_readReserve_32 : decode cX6_readReserve 32 = .ok (.aload_n 0, 1) := by decide +kernel
theorem dX6_readReserve_33 : decode cX6_readReserve 33 = .ok (.getfield 12, 3) := by decide +kernel
theorem dX6_readReserve_36 : decode cX6_readReserve 36 = .ok (.iconst 1, 1) := by decide +kernel
theorem dX6_readReserve_37 : decode cX6_readReserve 37 = .ok (.putfield 112, 3) := by decide +kernel
theorem dX6_readReserve_40 : decode cX6_readReserve 40 = .ok (.return_, 1) := by decide +kernel
theorem dX6_readChute_0 : decode cX6_readChute 0 = .ok (.aload_n 1, 1) := by decide +kernel
theorem dX6_readChute_1 : decode cX6_readChute 1 = .ok (.iconst 1, 1) := by decide +kernel
theorem dX6_readChute_2 : decode cX6_readChute 2 = .ok (.bipush 99, 2) := by decide +kernel
theorem dX6_readChute_4 : decode cX6_readChute 4 = .ok (.invokevirtual 29, 3) := by decide +kernel
theorem dX6_readChute_7 : decode cX6_readChute 7 = .ok (.istore 5, 2) := by decide +kernel
theorem dX6_readChute_9 : decode cX6_readChute 9 = .ok (.aload_n 1, 1) := by decide +kernel
theorem dX6_readChute_10 : decode cX6_readChute 10 = .ok (.iconst 1, 1) := by decide +kernel
theorem dX6_readChute_11 : decode cX6_readChute 11 = .ok (.bipush 12, 2) := by decide +kernel
theorem dX6_readChute_13 : decode cX6_readChute 13 = .ok (.invokevirtual 29, 3) := by decide +kernel
theorem dX6_readChute_16 : decode cX6_readChute 16 = .ok (.istore 6, 2) := by decide +kernel
theorem dX6_readChute_18 : decode cX6_readChute 18 = .ok (.aload_n 1, 1) := by decide +kernel
theorem dX6_readChute_19 : decode cX6_readChute 19 = .ok (.iconst 1, 1) := by decide +kernel
theorem dX6_readChute_20 : decode cX6_readChute 20 = .ok (.sipush 9999, 3) := by decide +kernel
theorem dX6_readChute_23 : decode cX6_readChute 23 = .ok (.invokevirtual 29, 3) := by decide +kernel
theorem dX6_readChute_26 : decode cX6_readChute 26 = .ok (.istore 7, 2) := by decide +kernel
theorem dX6_readChute_28 : decode cX6_readChute 28 = .ok (.aload_n 1, 1) := by decide +kernel
theorem dX6_readChute_29 : decode cX6_readChute 29 = .ok (.ldc 120, 2) := by decide +kernel
theorem dX6_readChute_31 : decode cX6_readChute 31 = .ok (.invokevirtual 25, 3) := by decide +kernel
theorem dX6_readChute_34 : decode cX6_readChute 34 = .ok (.aload_n 1, 1) := by decide +kernel
theorem dX6_readChute_35 : decode cX6_readChute 35 = .ok (.iconst 1, 1) := by decide +kernel
theorem dX6_readChute_36 : decode cX6_readChute 36 = .ok (.sipush 30000, 3) := by decide +kernel
theorem dX6_readChute_39 : decode cX6_readChute 39 = .ok (.invokevirtual 29, 3) := by decide +kernel
theorem dX6_readChute_42 : decode cX6_readChute 42 = .ok (.istore 8, 2) := by decide +kernel
theorem dX6_readChute_44 : decode cX6_readChute 44 = .ok (.aload_n 1, 1) := by decide +kernel
theorem dX6_readChute_45 : decode cX6_readChute 45 = .ok (.aload_n 3, 1) := by decide +kernel
theorem dX6_readChute_46 : decode cX6_readChute 46 = .ok (.invokevirtual 25, 3) := by decide +kernel
theorem dX6_readChute_49 : decode cX6_readChute 49 = .ok (.aload_n 1, 1) := by decide +kernel
theorem dX6_readChute_50 : decode cX6_readChute 50 = .ok (.iconst 1, 1) := by decide +kernel
theorem dX6_readChute_51 : decode cX6_readChute 51 = .ok (.iload 4, 2) := by decide +kernel
theorem dX6_readChute_53 : decode cX6_readChute 53 = .ok (.invokevirtual 29, 3) := by decide +kernel
theorem dX6_readChute_56 : decode cX6_readChute 56 = .ok (.istore 9, 2) := by decide +kernel
theorem dX6_readChute_58 : decode cX6_readChute 58 = .ok (.aload_n 2, 1) := by decide +kernel
theorem dX6_readChute_59 : decode cX6_readChute 59 = .ok (.iload 5, 2) := by decide +kernel
theorem dX6_readChute_61 : decode cX6_readChute 61 = .ok (.iload 6, 2) := by decide +kernel
theorem dX6_readChute_63 : decode cX6_readChute 63 = .ok (.iload 7, 2) := by decide +kernel
theorem dX6_readChute_65 : decode cX6_readChute 65 = .ok (.iload 8, 2) := by decide +kernel
theorem dX6_readChute_67 : decode cX6_readChute 67 = .ok (.iload 9, 2) := by decide +kernel
theorem dX6_readChute_69 : decode cX6_readChute 69 = .ok (.invokevirtual 122, 3) := by decide +kernel
theorem dX6_readChute_72 : decode cX6_readChute 72 = .ok (.return_, 1) := by decide +kernel
theorem dX6_readHeightAndSpeed_0 : decode cX6_readHeightAndSpeed 0 = .ok (.aload_n 0, 1) := by decide +kernel
theorem dX6_readHeightAndSpeed_1 : decode cX6_readHeightAndSpeed 1 = .ok (.aload_n 1, 1) := by decide +kernel
theorem dX6_readHeightAndSpeed_2 : decode cX6_readHeightAndSpeed 2 = .ok (.aload_n 0, 1) := by decide +kernel
theorem dX6_readHeightAndSpeed_3 : decode cX6_readHeightAndSpeed 3 = .ok (.getfield 12, 3) := by decide +kernel
theorem dX6_readHeightAndSpeed_6 : decode cX6_readHeightAndSpeed 6 = .ok (.getfield 126, 3) := by decide +kernel
theorem dX6_readHeightAndSpeed_9 : decode cX6_readHeightAndSpeed 9 = .ok (.iconst 1, 1) := by decide +kernel
theorem dX6_readHeightAndSpeed_10 : decode cX6_readHeightAndSpeed 10 = .ok (.invokevirtual 130, 3) := by decide +kernel
theorem dX6_readHeightAndSpeed_13 : decode cX6_readHeightAndSpeed 13 = .ok (.istore_n 2, 1) := by decide +kernel
theorem dX6_readHeightAndSpeed_14 : decode cX6_readHeightAndSpeed 14 = .ok (.aload_n 1, 1) := by decide +kernel
theorem dX6_readHeightAndSpeed_15 : decode cX6_readHeightAndSpeed 15 = .ok (.iconst 1, 1) := by decide +kernel
theorem dX6_readHeightAndSpeed_16 : decode cX6_readHeightAndSpeed 16 = .ok (.sipush 400, 3) := by decide +kernel
theorem dX6_readHeightAndSpeed_19 : decode cX6_readHeightAndSpeed 19 = .ok (.invokevirtual 29, 3) := by decide +kernel
theorem dX6_readHeightAndSpeed_22 : decode cX6_readHeightAndSpeed 22 = .ok (.istore_n 3, 1) := by decide +kernel
theorem dX6_readHeightAndSpeed_23 : decode cX6_readHeightAndSpeed 23 = .ok (.aload_n 0, 1) := by decide +kernel
theorem dX6_readHeightAndSpeed_24 : decode cX6_readHeightAndSpeed 24 = .ok (.getfield 12, 3) := by decide +kernel
theorem dX6_readHeightAndSpeed_27 : decode cX6_readHeightAndSpeed 27 = .ok (.getfield 126, 3) := by decide +kernel
theorem dX6_readHeightAndSpeed_30 : decode cX6_readHeightAndSpeed 30 = .ok (.iload_n 2, 1) := by decide +kernel
theorem dX6_readHeightAndSpeed_31 : decode cX6_readHeightAndSpeed 31 = .ok (.iload_n 3, 1) := by decide +kernel
theorem dX6_readHeightAndSpeed_32 : decode cX6_readHeightAndSpeed 32 = .ok (.invokevirtual 134, 3) := by decide +kernel
theorem dX6_readHeightAndSpeed_35 : decode cX6_readHeightAndSpeed 35 = .ok (.return_, 1) := by decide +kernel
theorem dX6_readWind_0 : decode cX6_readWind 0 = .ok (.aload_n 0, 1) := by decide +kernel
theorem dX6_readWind_1 : decode cX6_readWind 1 = .ok (.aload_n 1, 1) := by decide +kernel
theorem dX6_readWind_2 : decode cX6_readWind 2 = .ok (.aload_n 0, 1) := by decide +kernel
theorem dX6_readWind_3 : decode cX6_readWind 3 = .ok (.getfield 12, 3) := by decide +kernel
theorem dX6_readWind_6 : decode cX6_readWind 6 = .ok (.getfield 140, 3) := by decide +kernel
theorem dX6_readWind_9 : decode cX6_readWind 9 = .ok (.iconst 0, 1) := by decide +kernel
theorem dX6_readWind_10 : decode cX6_readWind 10 = .ok (.invokevirtual 130, 3) := by decide +kernel
theorem dX6_readWind_13 : decode cX6_readWind 13 = .ok (.istore_n 2, 1) := by decide +kernel
theorem dX6_readWind_14 : decode cX6_readWind 14 = .ok (.aload_n 1, 1) := by decide +kernel
theorem dX6_readWind_15 : decode cX6_readWind 15 = .ok (.bipush 40, 2) := by decide +kernel
theorem dX6_readWind_17 : decode cX6_readWind 17 = .ok (.invokevirtual 143, 3) := by decide +kernel
theorem dX6_readWind_20 : decode cX6_readWind 20 = .ok (.istore_n 3, 1) := by decide +kernel
theorem dX6_readWind_21 : decode cX6_readWind 21 = .ok (.aload_n 0, 1) := by decide +kernel
theorem dX6_readWind_22 : decode cX6_readWind 22 = .ok (.getfield 12, 3) := by decide +kernel
theorem dX6_readWind_25 : decode cX6_readWind 25 = .ok (.getfield 140, 3) := by decide +kernel
theorem dX6_readWind_28 : decode cX6_readWind 28 = .ok (.iload_n 2, 1) := by decide +kernel
theorem dX6_readWind_29 : decode cX6_readWind 29 = .ok (.iload_n 3, 1) := by decide +kernel
theorem dX6_readWind_30 : decode cX6_readWind 30 = .ok (.invokevirtual 134, 3) := by decide +kernel
theorem dX6_readWind_33 : decode cX6_readWind 33 = .ok (.return_, 1) := by decide +kernel
theorem dX6_takeNewHeight_0 : decode cX6_takeNewHeight 0 = .ok (.aload_n 2, 1) := by decide +kernel
theorem dX6_takeNewHeight_1 : decode cX6_takeNewHeight 1 = .ok (.getfield 147, 3) := by decide +kernel
theorem dX6_takeNewHeight_4 : decode cX6_takeNewHeight 4 = .ok (.bipush 8, 2) := by decide +kernel
theorem dX6_takeNewHeight_6 : decode cX6_takeNewHeight 6 = .ok (.if_icmp .lt 8, 3) := by decide +kernel
theorem dX6_takeNewHeight_9 : decode cX6_takeNewHeight 9 = .ok (.aload_n 1, 1) := by decide +kernel
theorem dX6_takeNewHeight_10 : decode cX6_takeNewHeight 10 = .ok (.iconst 4, 1) := by decide +kernel
theorem dX6_takeNewHeight_11 : decode cX6_takeNewHeight 11 = .ok (.invokevirtual 91, 3) := by decide +kernel
theorem dX6_takeNewHeight_14 : decode cX6_takeNewHeight 14 = .ok (.aload_n 1, 1) := by decide +kernel
theorem dX6_takeNewHeight_15 : decode cX6_takeNewHeight 15 = .ok (.iload_n 3, 1) := by decide +kernel
theorem dX6_takeNewHeight_16 : decode cX6_takeNewHeight 16 = .ok (.sipush 30000, 3) := by decide +kernel
theorem dX6_takeNewHeight_19 : decode cX6_takeNewHeight 19 = .ok (.invokevirtual 29, 3) := by decide +kernel
theorem dX6_takeNewHeight_22 : decode cX6_takeNewHeight 22 = .ok (.istore 4, 2) := by decide +kernel
theorem dX6_takeNewHeight_24 : decode cX6_takeNewHeight 24 = .ok (.aload_n 2, 1) := by decide +kernel
theorem dX6_takeNewHeight_25 : decode cX6_takeNewHeight 25 = .ok (.iload 4, 2) := by decide +kernel
theorem dX6_takeNewHeight_27 : decode cX6_takeNewHeight 27 = .ok (.invokevirtual 150, 3) := by decide +kernel
theorem dX6_takeNewHeight_30 : decode cX6_takeNewHeight 30 = .ok (.iconst (-1), 1) := by decide +kernel
theorem dX6_takeNewHeight_31 : decode cX6_takeNewHeight 31 = .ok (.if_icmp .eq 8, 3) := by decide +kernel
theorem dX6_takeNewHeight_34 : decode cX6_takeNewHeight 34 = .ok (.aload_n 1, 1) := by decide +kernel
theorem dX6_takeNewHeight_35 : decode cX6_takeNewHeight 35 = .ok (.iconst 3, 1) := by decide +kernel
theorem dX6_takeNewHeight_36 : decode cX6_takeNewHeight 36 = .ok (.invokevirtual 91, 3) := by decide +kernel
theorem dX6_takeNewHeight_39 : decode cX6_takeNewHeight 39 = .ok (.iload 4, 2) := by decide +kernel
theorem dX6_takeNewHeight_41 : decode cX6_takeNewHeight 41 = .ok (.ireturn, 1) := by decide +kernel
theorem dX6_readSpot_0 : decode cX6_readSpot 0 = .ok (.aload_n 0, 1) := by decide +kernel
theorem dX6_readSpot_1 : decode cX6_readSpot 1 = .ok (.getfield 12, 3) := by decide +kernel
theorem dX6_readSpot_4 : decode cX6_readSpot 4 = .ok (.getfield 153, 3) := by decide +kernel
theorem dX6_readSpot_7 : decode cX6_readSpot 7 = .ok (.getfield 157, 3) := by decide +kernel
theorem dX6_readSpot_10 : decode cX6_readSpot 10 = .ok (.bipush 8, 2) := by decide +kernel
theorem dX6_readSpot_12 : decode cX6_readSpot 12 = .ok (.if_icmp .lt 8, 3) := by decide +kernel
theorem dX6_readSpot_15 : decode cX6_readSpot 15 = .ok (.aload_n 1, 1) := by decide +kernel
theorem dX6_readSpot_16 : decode cX6_readSpot 16 = .ok (.iconst 4, 1) := by decide +kernel
theorem dX6_readSpot_17 : decode cX6_readSpot 17 = .ok (.invokevirtual 91, 3) := by decide +kernel
theorem dX6_readSpot_20 : decode cX6_readSpot 20 = .ok (.aload_n 1, 1) := by decide +kernel
theorem dX6_readSpot_21 : decode cX6_readSpot 21 = .ok (.sipush 9999, 3) := by decide +kernel
theorem dX6_readSpot_24 : decode cX6_readSpot 24 = .ok (.invokevirtual 143, 3) := by decide +kernel
theorem dX6_readSpot_27 : decode cX6_readSpot 27 = .ok (.istore_n 2, 1) := by decide +kernel
theorem dX6_readSpot_28 : decode cX6_readSpot 28 = .ok (.aload_n 1, 1) := by decide +kernel
theorem dX6_readSpot_29 : decode cX6_readSpot 29 = .ok (.sipush 9999, 3) := by decide +kernel
theorem dX6_readSpot_32 : decode cX6_readSpot 32 = .ok (.invokevirtual 143, 3) := by decide +kernel
theorem dX6_readSpot_35 : decode cX6_readSpot 35 = .ok (.istore_n 3, 1) := by decide +kernel
theorem dX6_readSpot_36 : decode cX6_readSpot 36 = .ok (.iload_n 3, 1) := by decide +kernel
theorem dX6_readSpot_37 : decode cX6_readSpot 37 = .ok (.iload_n 2, 1) := by decide +kernel
theorem dX6_readSpot_38 : decode cX6_readSpot 38 = .ok (.if_icmp .ge 8, 3) := by decide +kernel
theorem dX6_readSpot_41 : decode cX6_readSpot 41 = .ok (.aload_n 1, 1) := by decide +kernel
theorem dX6_readSpot_42 : decode cX6_readSpot 42 = .ok (.iconst 3, 1) := by decide +kernel
theorem dX6_readSpot_43 : decode cX6_readSpot 43 = .ok (.invokevirtual 91, 3) := by decide +kernel
theorem dX6_readSpot_46 : decode cX6_readSpot 46 = .ok (.aload_n 1, 1) := by decide +kernel
theorem dX6_readSpot_47 : decode cX6_readSpot 47 = .ok (.iconst 1, 1) := by decide +kernel
theorem dX6_readSpot_48 : decode cX6_readSpot 48 = .ok (.bipush 99, 2) := by decide +kernel
theorem dX6_readSpot_50 : decode cX6_readSpot 50 = .ok (.invokevirtual 29, 3) := by decide +kernel
theorem dX6_readSpot_53 : decode cX6_readSpot 53 = .ok (.istore 4, 2) := by decide +kernel
theorem dX6_readSpot_55 : decode cX6_readSpot 55 = .ok (.aload_n 0, 1) := by decide +kernel
theorem dX6_readSpot_56 : decode cX6_readSpot 56 = .ok (.getfield 12, 3) := by decide +kernel
theorem dX6_readSpot_59 : decode cX6_readSpot 59 = .ok (.getfield 153, 3) := by decide +kernel
theorem dX6_readSpot_62 : decode cX6_readSpot 62 = .ok (.iload_n 2, 1) := by decide +kernel
theorem dX6_readSpot_63 : decode cX6_readSpot 63 = .ok (.iload_n 3, 1) := by decide +kernel
theorem dX6_readSpot_64 : decode cX6_readSpot 64 = .ok (.iload 4, 2) := by decide +kernel
theorem dX6_readSpot_66 : decode cX6_readSpot 66 = .ok (.invokevirtual 160, 3) := by decide +kernel
theorem dX6_readSpot_69 : decode cX6_readSpot 69 = .ok (.return_, 1) := by decide +kernel
theorem dX7_init_0 : decode cX7_init 0 = .ok (.aload_n 0, 1) := by decide +kernel
theorem dX7_init_1 : decode cX7_init 1 = .ok (.invokespecial 1, 3) := by decide +kernel
theorem dX7_init_4 : decode cX7_init 4 = .ok (.aload_n 0, 1) := by decide +kernel
theorem dX7_init_5 : decode cX7_init 5 = .ok (.bipush 64, 2) := by decide +kernel
theorem dX7_init_7 : decode cX7_init 7 = .ok (.newarray .int, 2) := by decide +kernel
theorem dX7_init_9 : decode cX7_init 9 = .ok (.putfield 9, 3) := by decide +kernel
theorem dX7_init_12 : decode cX7_init 12 = .ok (.return_, 1) := by decide +kernel
theorem dX7_wipe_0 : decode cX7_wipe 0 = .ok (.aload_n 0, 1) := by decide +kernel
theorem dX7_wipe_1 : decode cX7_wipe 1 = .ok (.iconst 0, 1) := by decide +kernel
theorem dX7_wipe_2 : decode cX7_wipe 2 = .ok (.putfield 13, 3) := by decide +kernel
theorem dX7_wipe_5 : decode cX7_wipe 5 = .ok (.return_, 1) := by decide +kernel
theorem dX7_put_0 : decode cX7_put 0 = .ok (.aload_n 0, 1) := by decide +kernel
theorem dX7_put_1 : decode cX7_put 1 = .ok (.getfield 13, 3) := by decide +kernel
theorem dX7_put_4 : decode cX7_put 4 = .ok (.bipush 64, 2) := by decide +kernel
theorem dX7_put_6 : decode cX7_put 6 = .ok (.if_icmp .ge 23, 3) := by decide +kernel
theorem dX7_put_9 : decode cX7_put 9 = .ok (.aload_n 0, 1) := by decide +kernel
theorem dX7_put_10 : decode cX7_put 10 = .ok (.getfield 9, 3) := by decide +kernel
theorem dX7_put_13 : decode cX7_put 13 = .ok (.aload_n 0, 1) := by decide +kernel
theorem dX7_put_14 : decode cX7_put 14 = .ok (.getfield 13, 3) := by decide +kernel
theorem dX7_put_17 : decode cX7_put 17 = .ok (.iload_n 1, 1) := by decide +kernel
theorem dX7_put_18 : decode cX7_put 18 = .ok (.iastore, 1) := by decide +kernel
theorem dX7_put_19 : decode cX7_put 19 = .ok (.aload_n 0, 1) := by decide +kernel
theorem dX7_put_20 : decode cX7_put 20 = .ok (.dup, 1) := by decide +kernel
theorem dX7_put_21 : decode cX7_put 21 = .ok (.getfield 13, 3) := by decide +kernel
theorem dX7_put_24 : decode cX7_put 24 = .ok (.iconst 1, 1) := by decide +kernel
theorem dX7_put_25 : decode cX7_put 25 = .ok (.iadd, 1) := by decide +kernel
theorem dX7_put_26 : decode cX7_put 26 = .ok (.putfield 13, 3) := by decide +kernel
theorem dX7_put_29 : decode cX7_put 29 = .ok (.return_, 1) := by decide +kernel
theorem dX7_putNumber_0 : decode cX7_putNumber 0 = .ok (.iload_n 1, 1) := by decide +kernel
theorem dX7_putNumber_1 : decode cX7_putNumber 1 = .ok (.bipush 10, 2) := by decide +kernel
theorem dX7_putNumber_3 : decode cX7_putNumber 3 = .ok (.if_icmp .lt 18, 3) := by decide +kernel
theorem dX7_putNumber_6 : decode cX7_putNumber 6 = .ok (.aload_n 0, 1) := by decide +kernel
theorem dX7_putNumber_7 : decode cX7_putNumber 7 = .ok (.bipush 48, 2) := by decide +kernel
theorem dX7_putNumber_9 : decode cX7_putNumber 9 = .ok (.iload_n 1, 1) := by decide +kernel
theorem dX7_putNumber_10 : decode cX7_putNumber 10 = .ok (.bipush 10, 2) := by decide +kernel
theorem dX7_putNumber_12 : decode cX7_putNumber 12 = .ok (.idiv, 1) := by decide +kernel
theorem dX7_putNumber_13 : decode cX7_putNumber 13 = .ok (.bipush 10, 2) := by decide +kernel
theorem dX7_putNumber_15 : decode cX7_putNumber 15 = .ok (.irem, 1) := by decide +kernel
theorem dX7_putNumber_16 : decode cX7_putNumber 16 = .ok (.iadd, 1) := by decide +kernel
theorem dX7_putNumber_17 : decode cX7_putNumber 17 = .ok (.i2c, 1) := by decide +kernel
theorem dX7_putNumber_18 : decode cX7_putNumber 18 = .ok (.invokevirtual 17, 3) := by decide +kernel
theorem dX7_putNumber_21 : decode cX7_putNumber 21 = .ok (.aload_n 0, 1) := by decide +kernel
theorem dX7_putNumber_22 : decode cX7_putNumber 22 = .ok (.bipush 48, 2) := by decide +kernel
theorem dX7_putNumber_24 : decode cX7_putNumber 24 = .ok (.iload_n 1, 1) := by decide +kernel
theorem dX7_putNumber_25 : decode cX7_putNumber 25 = .ok (.bipush 10, 2) := by decide +kernel
theorem dX7_putNumber_27 : decode cX7_putNumber 27 = .ok (.irem, 1) := by decide +kernel
theorem dX7_putNumber_28 : decode cX7_putNumber 28 = .ok (.iadd, 1) := by decide +kernel
theorem dX7_putNumber_29 : decode cX7_putNumber 29 = .ok (.i2c, 1) := by decide +kernel
theorem dX7_putNumber_30 : decode cX7_putNumber 30 = .ok (.invokevirtual 17, 3) := by decide +kernel
theorem dX7_putNumber_33 : decode cX7_putNumber 33 = .ok (.return_, 1) := by decide +kernel
theorem dX8_init_0 : decode cX8_init 0 = .ok (.aload_n 0, 1) := by decide +kernel
theorem dX8_init_1 : decode cX8_init 1 = .ok (.invokespecial 3, 3) := by decide +kernel
theorem dX8_init_4 : decode cX8_init 4 = .ok (.aload_n 0, 1) := by decide +kernel
theorem dX8_init_5 : decode cX8_init 5 = .ok (.bipush 8, 2) := by decide +kernel
theorem dX8_init_7 : decode cX8_init 7 = .ok (.newarray .int, 2) := by decide +kernel
theorem dX8_init_9 : decode cX8_init 9 = .ok (.putfield 11, 3) := by decide +kernel
theorem dX8_init_12 : decode cX8_init 12 = .ok (.aload_n 0, 1) := by decide +kernel
theorem dX8_init_13 : decode cX8_init 13 = .ok (.bipush 8, 2) := by decide +kernel
theorem dX8_init_15 : decode cX8_init 15 = .ok (.newarray .int, 2) := by decide +kernel
theorem dX8_init_17 : decode cX8_init 17 = .ok (.putfield 15, 3) := by decide +kernel
theorem dX8_init_20 : decode cX8_init 20 = .ok (.aload_n 0, 1) := by decide +kernel
theorem dX8_init_21 : decode cX8_init 21 = .ok (.bipush 8, 2) := by decide +kernel
theorem dX8_init_23 : decode cX8_init 23 = .ok (.newarray .int, 2) := by decide +kernel
theorem dX8_init_25 : decode cX8_init 25 = .ok (.putfield 18, 3) := by decide +kernel
theorem dX8_init_28 : decode cX8_init 28 = .ok (.return_, 1) := by decide +kernel
theorem dX8_copyFrom_0 : decode cX8_copyFrom 0 = .ok (.aload_n 1, 1) := by decide +kernel
theorem dX8_copyFrom_1 : decode cX8_copyFrom 1 = .ok (.getfield 11, 3) := by decide +kernel
theorem dX8_copyFrom_4 : decode cX8_copyFrom 4 = .ok (.iconst 0, 1) := by decide +kernel
theorem dX8_copyFrom_5 : decode cX8_copyFrom 5 = .ok (.aload_n 0, 1) := by decide +kernel
theorem dX8_copyFrom_6 : decode cX8_copyFrom 6 = .ok (.getfield 11, 3) := by decide +kernel
theorem dX8_copyFrom_9 : decode cX8_copyFrom 9 = .ok (.iconst 0, 1) := by decide +kernel
theorem dX8_copyFrom_10 : decode cX8_copyFrom 10 = .ok (.bipush 8, 2) := by decide +kernel
theorem dX8_copyFrom_12 : decode cX8_copyFrom 12 = .ok (.invokestatic 21, 3) := by decide +kernel
theorem dX8_copyFrom_15 : decode cX8_copyFrom 15 = .ok (.aload_n 1, 1) := by decide +kernel
theorem dX8_copyFrom_16 : decode cX8_copyFrom 16 = .ok (.getfield 15, 3) := by decide +kernel
theorem dX8_copyFrom_19 : decode cX8_copyFrom 19 = .ok (.iconst 0, 1) := by decide +kernel
theorem dX8_copyFrom_20 : decode cX8_copyFrom 20 = .ok (.aload_n 0, 1) := by decide +kernel
theorem dX8_copyFrom_21 : decode cX8_copyFrom 21 = .ok (.getfield 15, 3) := by decide +kernel
theorem dX8_copyFrom_24 : decode cX8_copyFrom 24 = .ok (.iconst 0, 1) := by decide +kernel
theorem dX8_copyFrom_25 : decode cX8_copyFrom 25 = .ok (.bipush 8, 2) := by decide +kernel
theorem dX8_copyFrom_27 : decode cX8_copyFrom 27 = .ok (.invokestatic 21, 3) := by decide +kernel
theorem dX8_copyFrom_30 : decode cX8_copyFrom 30 = .ok (.aload_n 1, 1) := by decide +kernel
theorem dX8_copyFrom_31 : decode cX8_copyFrom 31 = .ok (.getfield 18, 3) := by decide +kernel
theorem dX8_copyFrom_34 : decode cX8_copyFrom 34 = .ok (.iconst 0, 1) := by decide +kernel
theorem dX8_copyFrom_35 : decode cX8_copyFrom 35 = .ok (.aload_n 0, 1) := by decide +kernel
theorem dX8_copyFrom_36 : decode cX8_copyFrom 36 = .ok (.getfield 18, 3) := by decide +kernel
theorem dX8_copyFrom_39 : decode cX8_copyFrom 39 = .ok (.iconst 0, 1) := by decide +kernel
theorem dX8_copyFrom_40 : decode cX8_copyFrom 40 = .ok (.bipush 8, 2) := by decide +kernel
theorem dX8_copyFrom_42 : decode cX8_copyFrom 42 = .ok (.invokestatic 21, 3) := by decide +kernel
theorem dX8_copyFrom_45 : decode cX8_copyFrom 45 = .ok (.aload_n 0, 1) := by decide +kernel
theorem dX8_copyFrom_46 : decode cX8_copyFrom 46 = .ok (.aload_n 1, 1) := by decide +kernel
theorem dX8_copyFrom_47 : decode cX8_copyFrom 47 = .ok (.getfield 27, 3) := by decide +kernel
theorem dX8_copyFrom_50 : decode cX8_copyFrom 50 = .ok (.putfield 27, 3) := by decide +kernel
theorem dX8_copyFrom_53 : decode cX8_copyFrom 53 = .ok (.return_, 1) := by decide +kernel
theorem dX8_has_0 : decode cX8_has 0 = .ok (.iload_n 1, 1) := by decide +kernel
theorem dX8_has_1 : decode cX8_has 1 = .ok (.ifCond .lt 15, 3) := by decide +kernel
theorem dX8_has_4 : decode cX8_has 4 = .ok (.iload_n 1, 1) := by decide +kernel
theorem dX8_has_5 : decode cX8_has 5 = .ok (.aload_n 0, 1) := by decide +kernel
theorem dX8_has_6 : decode cX8_has 6 = .ok (.getfield 27, 3) := by decide +kernel
theorem dX8_has_9 : decode cX8_has 9 = .ok (.if_icmp .ge 7, 3) := by decide +kernel
theorem dX8_has_12 : decode cX8_has 12 = .ok (.iconst 1, 1) := by decide +kernel
theorem dX8_has_13 : decode cX8_has 13 = .ok (.goto 4, 3) := by decide +kernel
theorem dX8_has_16 : decode cX8_has 16 = .ok (.iconst 0, 1) := by decide +kernel
theorem dX8_has_17 : decode cX8_has 17 = .ok (.ireturn, 1) := by decide +kernel
theorem dX8_add_0 : decode cX8_add 0 = .ok (.aload_n 0, 1) := by decide +kernel
theorem dX8_add_1 : decode cX8_add 1 = .ok (.getfield 27, 3) := by decide +kernel
theorem dX8_add_4 : decode cX8_add 4 = .ok (.bipush 8, 2) := by decide +kernel
theorem dX8_add_6 : decode cX8_add 6 = .ok (.if_icmp .ge 43, 3) := by decide +kernel
theorem dX8_add_9 : decode cX8_add 9 = .ok (.aload_n 0, 1) := by decide +kernel
theorem dX8_add_10 : decode cX8_add 10 = .ok (.getfield 11, 3) := by decide +kernel
theorem dX8_add_13 : decode cX8_add 13 = .ok (.aload_n 0, 1) := by decide +kernel
theorem dX8_add_14 : decode cX8_add 14 = .ok (.getfield 27, 3) := by decide +kernel
theorem dX8_add_17 : decode cX8_add 17 = .ok (.iload_n 1, 1) := by decide +kernel
theorem dX8_add_18 : decode cX8_add 18 = .ok (.iastore, 1) := by decide +kernel
theorem dX8_add_19 : decode cX8_add 19 = .ok (.aload_n 0, 1) := by decide +kernel
theorem dX8_add_20 : decode cX8_add 20 = .ok (.getfield 15, 3) := by decide +kernel
theorem dX8_add_23 : decode cX8_add 23 = .ok (.aload_n 0, 1) := by decide +kernel
theorem dX8_add_24 : decode cX8_add 24 = .ok (.getfield 27, 3) := by decide +kernel
theorem dX8_add_27 : decode cX8_add 27 = .ok (.iload_n 2, 1) := by decide +kernel
theorem dX8_add_28 : decode cX8_add 28 = .ok (.iastore, 1) := by decide +kernel
theorem dX8_add_29 : decode cX8_add 29 = .ok (.aload_n 0, 1) := by decide +kernel
theorem dX8_add_30 : decode cX8_add 30 = .ok (.getfield 18, 3) := by decide +kernel
theorem dX8_add_33 : decode cX8_add 33 = .ok (.aload_n 0, 1) := by decide +kernel
theorem dX8_add_34 : decode cX8_add 34 = .ok (.getfield 27, 3) := by decide +kernel
theorem dX8_add_37 : decode cX8_add 37 = .ok (.iload_n 3, 1) := by decide +kernel
theorem dX8_add_38 : decode cX8_add 38 = .ok (.iastore, 1) := by decide +kernel
theorem dX8_add_39 : decode cX8_add 39 = .ok (.aload_n 0, 1) := by decide +kernel
theorem dX8_add_40 : decode cX8_add 40 = .ok (.dup, 1) := by decide +kernel
theorem dX8_add_41 : decode cX8_add 41 = .ok (.getfield 27, 3) := by decide +kernel
theorem dX8_add_44 : decode cX8_add 44 = .ok (.iconst 1, 1) := by decide +kernel
theorem dX8_add_45 : decode cX8_add 45 = .ok (.iadd, 1) := by decide +kernel
theorem dX8_add_46 : decode cX8_add 46 = .ok (.putfield 27, 3) := by decide +kernel
theorem dX8_add_49 : decode cX8_add 49 = .ok (.return_, 1) := by decide +kernel
theorem dX8_distanceTo_0 : decode cX8_distanceTo 0 = .ok (.iload_n 2, 1) := by decide +kernel
theorem dX8_distanceTo_1 : decode cX8_distanceTo 1 = .ok (.aload_n 0, 1) := by decide +kernel
theorem dX8_distanceTo_2 : decode cX8_distanceTo 2 = .ok (.getfield 11, 3) := by decide +kernel
theorem dX8_distanceTo_5 : decode cX8_distanceTo 5 = .ok (.iload_n 1, 1) := by decide +kernel
theorem dX8_distanceTo_6 : decode cX8_distanceTo 6 = .ok (.iaload, 1) := by decide +kernel
theorem dX8_distanceTo_7 : decode cX8_distanceTo 7 = .ok (.if_icmp .ge 12, 3) := by decide +kernel
theorem dX8_distanceTo_10 : decode cX8_distanceTo 10 = .ok (.aload_n 0, 1) := by decide +kernel
theorem dX8_distanceTo_11 : decode cX8_distanceTo 11 = .ok (.getfield 11, 3) := by decide +kernel
theorem dX8_distanceTo_14 : decode cX8_distanceTo 14 = .ok (.iload_n 1, 1) := by decide +kernel
theorem dX8_distanceTo_15 : decode cX8_distanceTo 15 = .ok (.iaload, 1) := by decide +kernel
theorem dX8_distanceTo_16 : decode cX8_distanceTo 16 = .ok (.iload_n 2, 1) := by decide +kernel
theorem dX8_distanceTo_17 : decode cX8_distanceTo 17 = .ok (.isub, 1) := by decide +kernel
theorem dX8_distanceTo_18 : decode cX8_distanceTo 18 = .ok (.ireturn, 1) := by decide +kernel
theorem dX8_distanceTo_19 : decode cX8_distanceTo 19 = .ok (.iload_n 2, 1) := by decide +kernel
theorem dX8_distanceTo_20 : decode cX8_distanceTo 20 = .ok (.aload_n 0, 1) := by decide +kernel
theorem dX8_distanceTo_21 : decode cX8_distanceTo 21 = .ok (.getfield 15, 3) := by decide +kernel
theorem dX8_distanceTo_24 : decode cX8_distanceTo 24 = .ok (.iload_n 1, 1) := by decide +kernel
theorem dX8_distanceTo_25 : decode cX8_distanceTo 25 = .ok (.iaload, 1) := by decide +kernel
theorem dX8_distanceTo_26 : decode cX8_distanceTo 26 = .ok (.if_icmp .le 14, 3) := by decide +kernel
theorem dX8_distanceTo_29 : decode cX8_distanceTo 29 = .ok (.iload_n 2, 1) := by decide +kernel
theorem dX8_distanceTo_30 : decode cX8_distanceTo 30 = .ok (.aload_n 0, 1) := by decide +kernel
theorem dX8_distanceTo_31 : decode cX8_distanceTo 31 = .ok (.getfield 15, 3) := by decide +kernel
theorem dX8_distanceTo_34 : decode cX8_distanceTo 34 = .ok (.iload_n 1, 1) := by decide +kernel
theorem dX8_distanceTo_35 : decode cX8_distanceTo 35 = .ok (.iaload, 1) := by decide +kernel
theorem dX8_distanceTo_36 : decode cX8_distanceTo 36 = .ok (.isub, 1) := by decide +kernel
theorem dX8_distanceTo_37 : decode cX8_distanceTo 37 = .ok (.goto 4, 3) := by decide +kernel
theorem dX8_distanceTo_40 : decode cX8_distanceTo 40 = .ok (.iconst 0, 1) := by decide +kernel
theorem dX8_distanceTo_41 : decode cX8_distanceTo 41 = .ok (.ireturn, 1) := by decide +kernel
theorem dX8_firstWith_0 : decode cX8_firstWith 0 = .ok (.iconst 0, 1) := by decide +kernel
theorem dX8_firstWith_1 : decode cX8_firstWith 1 = .ok (.istore_n 2, 1) := by decide +kernel
theorem dX8_firstWith_2 : decode cX8_firstWith 2 = .ok (.iload_n 2, 1) := by decide +kernel
theorem dX8_firstWith_3 : decode cX8_firstWith 3 = .ok (.aload_n 0, 1) := by decide +kernel
theorem dX8_firstWith_4 : decode cX8_firstWith 4 = .ok (.getfield 27, 3) := by decide +kernel
theorem dX8_firstWith_7 : decode cX8_firstWith 7 = .ok (.if_icmp .ge 20, 3) := by decide +kernel
theorem dX8_firstWith_10 : decode cX8_firstWith 10 = .ok (.aload_n 0, 1) := by decide +kernel
theorem dX8_firstWith_11 : decode cX8_firstWith 11 = .ok (.iload_n 2, 1) := by decide +kernel
theorem dX8_firstWith_12 : decode cX8_firstWith 12 = .ok (.iload_n 1, 1) := by decide +kernel
theorem dX8_firstWith_13 : decode cX8_firstWith 13 = .ok (.invokevirtual 31, 3) := by decide +kernel
theorem dX8_firstWith_16 : decode cX8_firstWith 16 = .ok (.ifCond .ne 5, 3) := by decide +kernel
theorem dX8_firstWith_19 : decode cX8_firstWith 19 = .ok (.iload_n 2, 1) := by decide +kernel
theorem dX8_firstWith_20 : decode cX8_firstWith 20 = .ok (.ireturn, 1) := by decide +kernel
theorem dX8_firstWith_21 : decode cX8_firstWith 21 = .ok (.iinc 2 1, 3) := by decide +kernel
theorem dX8_firstWith_24 : decode cX8_firstWith 24 = .ok (.goto (-22), 3) := by decide +kernel
theorem dX8_firstWith_27 : decode cX8_firstWith 27 = .ok (.iconst (-1), 1) := by decide +kernel
theorem dX8_firstWith_28 : decode cX8_firstWith 28 = .ok (.ireturn, 1) := by decide +kernel
theorem dX8_allWith_0 : decode cX8_allWith 0 = .ok (.iconst 0, 1) := by decide +kernel
theorem dX8_allWith_1 : decode cX8_allWith 1 = .ok (.istore_n 2, 1) := by decide +kernel
theorem dX8_allWith_2 : decode cX8_allWith 2 = .ok (.iconst 0, 1) := by decide +kernel
theorem dX8_allWith_3 : decode cX8_allWith 3 = .ok (.istore_n 3, 1) := by decide +kernel
theorem dX8_allWith_4 : decode cX8_allWith 4 = .ok (.iload_n 3, 1) := by decide +kernel
theorem dX8_allWith_5 : decode cX8_allWith 5 = .ok (.aload_n 0, 1) := by decide +kernel
theorem dX8_allWith_6 : decode cX8_allWith 6 = .ok (.getfield 27, 3) := by decide +kernel
theorem dX8_allWith_9 : decode cX8_allWith 9 = .ok (.if_icmp .ge 24, 3) := by decide +kernel
theorem dX8_allWith_12 : decode cX8_allWith 12 = .ok (.aload_n 0, 1) := by decide +kernel
theorem dX8_allWith_13 : decode cX8_allWith 13 = .ok (.iload_n 3, 1) := by decide +kernel
theorem dX8_allWith_14 : decode cX8_allWith 14 = .ok (.iload_n 1, 1) := by decide +kernel
theorem dX8_allWith_15 : decode cX8_allWith 15 = .ok (.invokevirtual 31, 3) := by decide +kernel
theorem dX8_allWith_18 : decode cX8_allWith 18 = .ok (.ifCond .ne 9, 3) := by decide +kernel
theorem dX8_allWith_21 : decode cX8_allWith 21 = .ok (.iload_n 2, 1) := by decide +kernel
theorem dX8_allWith_22 : decode cX8_allWith 22 = .ok (.iconst 1, 1) := by decide +kernel
theorem dX8_allWith_23 : decode cX8_allWith 23 = .ok (.iload_n 3, 1) := by decide +kernel
theorem dX8_allWith_24 : decode cX8_allWith 24 = .ok (.ishl, 1) := by decide +kernel
theorem dX8_allWith_25 : decode cX8_allWith 25 = .ok (.ior, 1) := by decide +kernel
theorem dX8_allWith_26 : decode cX8_allWith 26 = .ok (.istore_n 2, 1) := by decide +kernel
theorem dX8_allWith_27 : decode cX8_allWith 27 = .ok (.iinc 3 1, 3) := by decide +kernel
theorem dX8_allWith_30 : decode cX8_allWith 30 = .ok (.goto (-26), 3) := by decide +kernel
theorem dX8_allWith_33 : decode cX8_allWith 33 = .ok (.iload_n 2, 1) := by decide +kernel
theorem dX8_allWith_34 : decode cX8_allWith 34 = .ok (.ireturn, 1) := by decide +kernel
theorem dX9_init_0 : decode cX9_init 0 = .ok (.aload_n 0, 1) := by decide +kernel
theorem dX9_init_1 : decode cX9_init 1 = .ok (.invokespecial 3, 3) := by decide +kernel
theorem dX9_init_4 : decode cX9_init 4 = .ok (.aload_n 0, 1) := by decide +kernel
theorem dX9_init_5 : decode cX9_init 5 = .ok (.bipush 8, 2) := by decide +kernel
theorem dX9_init_7 : decode cX9_init 7 = .ok (.anewarray 11, 3) := by decide +kernel
theorem dX9_init_10 : decode cX9_init 10 = .ok (.putfield 13, 3) := by decide +kernel
theorem dX9_init_13 : decode cX9_init 13 = .ok (.aload_n 0, 1) := by decide +kernel
theorem dX9_init_14 : decode cX9_init 14 = .ok (.new 11, 3) := by decide +kernel
theorem dX9_init_17 : decode cX9_init 17 = .ok (.dup, 1) := by decide +kernel
theorem dX9_init_18 : decode cX9_init 18 = .ok (.invokespecial 17, 3) := by decide +kernel
theorem dX9_init_21 : decode cX9_init 21 = .ok (.putfield 18, 3) := by decide +kernel
theorem dX9_init_24 : decode cX9_init 24 = .ok (.aload_n 0, 1) := by decide +kernel
theorem dX9_init_25 : decode cX9_init 25 = .ok (.new 22, 3) := by decide +kernel
theorem dX9_init_28 : decode cX9_init 28 = .ok (.dup, 1) := by decide +kernel
theorem dX9_init_29 : decode cX9_init 29 = .ok (.invokespecial 24, 3) := by decide +kernel
theorem dX9_init_32 : decode cX9_init 32 = .ok (.putfield 25, 3) := by decide +kernel
theorem dX9_init_35 : decode cX9_init 35 = .ok (.aload_n 0, 1) := by decide +kernel
theorem dX9_init_36 : decode cX9_init 36 = .ok (.new 22, 3) := by decide +kernel
theorem dX9_init_39 : decode cX9_init 39 = .ok (.dup, 1) := by decide +kernel
theorem dX9_init_40 : decode cX9_init 40 = .ok (.invokespecial 24, 3) := by decide +kernel
theorem dX9_init_43 : decode cX9_init 43 = .ok (.putfield 29, 3) := by decide +kernel
theorem dX9_init_46 : decode cX9_init 46 = .ok (.aload_n 0, 1) := by decide +kernel
theorem dX9_init_47 : decode cX9_init 47 = .ok (.new 32, 3) := by decide +kernel
theorem dX9_init_50 : decode cX9_init 50 = .ok (.dup, 1) := by decide +kernel
theorem dX9_init_51 : decode cX9_init 51 = .ok (.invokespecial 34, 3) := by decide +kernel
theorem dX9_init_54 : decode cX9_init 54 = .ok (.putfield 35, 3) := by decide +kernel
theorem dX9_init_57 : decode cX9_init 57 = .ok (.aload_n 0, 1) := by decide +kernel
theorem dX9_init_58 : decode cX9_init 58 = .ok (.new 39, 3) := by decide +kernel
theorem dX9_init_61 : decode cX9_init 61 = .ok (.dup, 1) := by decide +kernel
theorem dX9_init_62 : decode cX9_init 62 = .ok (.invokespecial 41, 3) := by decide +kernel
theorem dX9_init_65 : decode cX9_init 65 = .ok (.putfield 42, 3) := by decide +kernel
theorem dX9_init_68 : decode cX9_init 68 = .ok (.iconst 0, 1) := by decide +kernel
theorem dX9_init_69 : decode cX9_init 69 = .ok (.istore_n 1, 1) := by decide +kernel
theorem dX9_init_70 : decode cX9_init 70 = .ok (.iload_n 1, 1) := by decide +kernel
theorem dX9_init_71 : decode cX9_init 71 = .ok (.bipush 8, 2) := by decide +kernel
theorem dX9_init_73 : decode cX9_init 73 = .ok (.if_icmp .ge 22, 3) := by decide +kernel
theorem dX9_init_76 : decode cX9_init 76 = .ok (.aload_n 0, 1) := by decide +kernel
theorem dX9_init_77 : decode cX9_init 77 = .ok (.getfield 13, 3) := by decide +kernel
theorem dX9_init_80 : decode cX9_init 80 = .ok (.iload_n 1, 1) := by decide +kernel
theorem dX9_init_81 : decode cX9_init 81 = .ok (.new 11, 3) := by decide +kernel
theorem dX9_init_84 : decode cX9_init 84 = .ok (.dup, 1) := by decide +kernel
theorem dX9_init_85 : decode cX9_init 85 = .ok (.invokespecial 17, 3) := by decide +kernel
theorem dX9_init_88 : decode cX9_init 88 = .ok (.aastore, 1) := by decide +kernel
theorem dX9_init_89 : decode cX9_init 89 = .ok (.iinc 1 1, 3) := by decide +kernel
theorem dX9_init_92 : decode cX9_init 92 = .ok (.goto (-22), 3) := by decide +kernel
theorem dX9_init_95 : decode cX9_init 95 = .ok (.return_, 1) := by decide +kernel
theorem dX9_begin_0 : decode cX9_begin 0 = .ok (.aload_n 0, 1) := by decide +kernel
theorem dX9_begin_1 : decode cX9_begin 1 = .ok (.iload_n 1, 1) := by decide +kernel
theorem dX9_begin_2 : decode cX9_begin 2 = .ok (.putfield 46, 3) := by decide +kernel
theorem dX9_begin_5 : decode cX9_begin 5 = .ok (.aload_n 0, 1) := by decide +kernel
theorem dX9_begin_6 : decode cX9_begin 6 = .ok (.iload_n 2, 1) := by decide +kernel
theorem dX9_begin_7 : decode cX9_begin 7 = .ok (.putfield 50, 3) := by decide +kernel
theorem dX9_begin_10 : decode cX9_begin 10 = .ok (.aload_n 0, 1) := by decide +kernel
theorem dX9_begin_11 : decode cX9_begin 11 = .ok (.iload_n 3, 1) := by decide +kernel
theorem dX9_begin_12 : decode cX9_begin 12 = .ok (.putfield 53, 3) := by decide +kernel
theorem dX9_begin_15 : decode cX9_begin 15 = .ok (.aload_n 0, 1) := by decide +kernel
theorem dX9_begin_16 : decode cX9_begin 16 = .ok (.iconst 0, 1) := by decide +kernel
theorem dX9_begin_17 : decode cX9_begin 17 = .ok (.putfield 56, 3) := by decide +kernel
theorem dX9_begin_20 : decode cX9_begin 20 = .ok (.aload_n 0, 1) := by decide +kernel
theorem dX9_begin_21 : decode cX9_begin 21 = .ok (.iconst 0, 1) := by decide +kernel
theorem dX9_begin_22 : decode cX9_begin 22 = .ok (.putfield 59, 3) := by decide +kernel
theorem dX9_begin_25 : decode cX9_begin 25 = .ok (.aload_n 0, 1) := by decide +kernel
theorem dX9_begin_26 : decode cX9_begin 26 = .ok (.iconst 0, 1) := by decide +kernel
theorem dX9_begin_27 : decode cX9_begin 27 = .ok (.putfield 62, 3) := by decide +kernel
theorem dX9_begin_30 : decode cX9_begin 30 = .ok (.aload_n 0, 1) := by decide +kernel
theorem dX9_begin_31 : decode cX9_begin 31 = .ok (.iconst 0, 1) := by decide +kernel
theorem dX9_begin_32 : decode cX9_begin 32 = .ok (.putfield 65, 3) := by decide +kernel
theorem dX9_begin_35 : decode cX9_begin 35 = .ok (.aload_n 0, 1) := by decide +kernel
theorem dX9_begin_36 : decode cX9_begin 36 = .ok (.bipush 20, 2) := by decide +kernel
theorem dX9_begin_38 : decode cX9_begin 38 = .ok (.putfield 68, 3) := by decide +kernel
theorem dX9_begin_41 : decode cX9_begin 41 = .ok (.aload_n 0, 1) := by decide +kernel
theorem dX9_begin_42 : decode cX9_begin 42 = .ok (.iconst 0, 1) := by decide +kernel
theorem dX9_begin_43 : decode cX9_begin 43 = .ok (.putfield 71, 3) := by decide +kernel
theorem dX9_begin_46 : decode cX9_begin 46 = .ok (.aload_n 0, 1) := by decide +kernel
theorem dX9_begin_47 : decode cX9_begin 47 = .ok (.iconst 0, 1) := by decide +kernel
theorem dX9_begin_48 : decode cX9_begin 48 = .ok (.putfield 74, 3) := by decide +kernel
theorem dX9_begin_51 : decode cX9_begin 51 = .ok (.aload_n 0, 1) := by decide +kernel
theorem dX9_begin_52 : decode cX9_begin 52 = .ok (.iconst 0, 1) := by decide +kernel
theorem dX9_begin_53 : decode cX9_begin 53 = .ok (.putfield 77, 3) := by decide +kernel
theorem dX9_begin_56 : decode cX9_begin 56 = .ok (.aload_n 0, 1) := by decide +kernel
theorem dX9_begin_57 : decode cX9_begin 57 = .ok (.iconst 0, 1) := by decide +kernel
theorem dX9_begin_58 : decode cX9_begin 58 = .ok (.putfield 80, 3) := by decide +kernel
theorem dX9_begin_61 : decode cX9_begin 61 = .ok (.aload_n 0, 1) := by decide +kernel
theorem dX9_begin_62 : decode cX9_begin 62 = .ok (.getfield 25, 3) := by decide +kernel
theorem dX9_begin_65 : decode cX9_begin 65 = .ok (.iconst 0, 1) := by decide +kernel
theorem dX9_begin_66 : decode cX9_begin 66 = .ok (.putfield 84, 3) := by decide +kernel
theorem dX9_begin_69 : decode cX9_begin 69 = .ok (.aload_n 0, 1) := by decide +kernel
theorem dX9_begin_70 : decode cX9_begin 70 = .ok (.getfield 29, 3) := by decide +kernel
theorem dX9_begin_73 : decode cX9_begin 73 = .ok (.iconst 0, 1) := by decide +kernel
theorem dX9_begin_74 : decode cX9_begin 74 = .ok (.putfield 84, 3) := by decide +kernel
theorem dX9_begin_77 : decode cX9_begin 77 = .ok (.aload_n 0, 1) := by decide +kernel
theorem dX9_begin_78 : decode cX9_begin 78 = .ok (.getfield 35, 3) := by decide +kernel
theorem dX9_begin_81 : decode cX9_begin 81 = .ok (.iconst 0, 1) := by decide +kernel
theorem dX9_begin_82 : decode cX9_begin 82 = .ok (.putfield 87, 3) := by decide +kernel
theorem dX9_begin_85 : decode cX9_begin 85 = .ok (.aload_n 0, 1) := by decide +kernel
theorem dX9_begin_86 : decode cX9_begin 86 = .ok (.getfield 42, 3) := by decide +kernel
theorem dX9_begin_89 : decode cX9_begin 89 = .ok (.invokevirtual 88, 3) := by decide +kernel
theorem dX9_begin_92 : decode cX9_begin 92 = .ok (.return_, 1) := by decide +kernel
theorem dX9_copyFrom_0 : decode cX9_copyFrom 0 = .ok (.aload_n 0, 1) := by decide +kernel
theorem dX9_copyFrom_1 : decode cX9_copyFrom 1 = .ok (.aload_n 1, 1) := by decide +kernel
theorem dX9_copyFrom_2 : decode cX9_copyFrom 2 = .ok (.getfield 46, 3) := by decide +kernel
theorem dX9_copyFrom_5 : decode cX9_copyFrom 5 = .ok (.putfield 46, 3) := by decide +kernel
theorem dX9_copyFrom_8 : decode cX9_copyFrom 8 = .ok (.aload_n 0, 1) := by decide +kernel
theorem dX9_copyFrom_9 : decode cX9_copyFrom 9 = .ok (.aload_n 1, 1) := by decide +kernel
theorem dX9_copyFrom_10 : decode cX9_copyFrom 10 = .ok (.getfield 50, 3) := by decide +kernel
theorem dX9_copyFrom_13 : decode cX9_copyFrom 13 = .ok (.putfield 50, 3) := by decide +kernel
theorem dX9_copyFrom_16 : decode cX9_copyFrom 16 = .ok (.aload_n 0, 1) := by decide +kernel
theorem dX9_copyFrom_17 : decode cX9_copyFrom 17 = .ok (.aload_n 1, 1) := by decide +kernel
theorem dX9_copyFrom_18 : decode cX9_copyFrom 18 = .ok (.getfield 56, 3) := by decide +kernel
theorem dX9_copyFrom_21 : decode cX9_copyFrom 21 = .ok (.putfield 56, 3) := by decide +kernel
theorem dX9_copyFrom_24 : decode cX9_copyFrom 24 = .ok (.aload_n 0, 1) := by decide +kernel
theorem dX9_copyFrom_25 : decode cX9_copyFrom 25 = .ok (.aload_n 1, 1) := by decide +kernel
theorem dX9_copyFrom_26 : decode cX9_copyFrom 26 = .ok (.getfield 53, 3) := by decide +kernel
theorem dX9_copyFrom_29 : decode cX9_copyFrom 29 = .ok (.putfield 53, 3) := by decide +kernel
theorem dX9_copyFrom_32 : decode cX9_copyFrom 32 = .ok (.aload_n 0, 1) := by decide +kernel
theorem dX9_copyFrom_33 : decode cX9_copyFrom 33 = .ok (.aload_n 1, 1) := by decide +kernel
theorem dX9_copyFrom_34 : decode cX9_copyFrom 34 = .ok (.getfield 59, 3) := by decide +kernel
theorem dX9_copyFrom_37 : decode cX9_copyFrom 37 = .ok (.putfield 59, 3) := by decide +kernel
theorem dX9_copyFrom_40 : decode cX9_copyFrom 40 = .ok (.aload_n 0, 1) := by decide +kernel
theorem dX9_copyFrom_41 : decode cX9_copyFrom 41 = .ok (.aload_n 1, 1) := by decide +kernel
theorem dX9_copyFrom_42 : decode cX9_copyFrom 42 = .ok (.getfield 62, 3) := by decide +kernel
theorem dX9_copyFrom_45 : decode cX9_copyFrom 45 = .ok (.putfield 62, 3) := by decide +kernel
theorem dX9_copyFrom_48 : decode cX9_copyFrom 48 = .ok (.aload_n 0, 1) := by decide +kernel
theorem dX9_copyFrom_49 : decode cX9_copyFrom 49 = .ok (.aload_n 1, 1) := by decide +kernel
theorem dX9_copyFrom_50 : decode cX9_copyFrom 50 = .ok (.getfield 65, 3) := by decide +kernel
theorem dX9_copyFrom_53 : decode cX9_copyFrom 53 = .ok (.putfield 65, 3) := by decide +kernel
theorem dX9_copyFrom_56 : decode cX9_copyFrom 56 = .ok (.aload_n 0, 1) := by decide +kernel
theorem dX9_copyFrom_57 : decode cX9_copyFrom 57 = .ok (.aload_n 1, 1) := by decide +kernel
theorem dX9_copyFrom_58 : decode cX9_copyFrom 58 = .ok (.getfield 68, 3) := by decide +kernel
theorem dX9_copyFrom_61 : decode cX9_copyFrom 61 = .ok (.putfield 68, 3) := by decide +kernel
theorem dX9_copyFrom_64 : decode cX9_copyFrom 64 = .ok (.aload_n 0, 1) := by decide +kernel
theorem dX9_copyFrom_65 : decode cX9_copyFrom 65 = .ok (.aload_n 1, 1) := by decide +kernel
theorem dX9_copyFrom_66 : decode cX9_copyFrom 66 = .ok (.getfield 71, 3) := by decide +kernel
theorem dX9_copyFrom_69 : decode cX9_copyFrom 69 = .ok (.putfield 71, 3) := by decide +kernel
theorem dX9_copyFrom_72 : decode cX9_copyFrom 72 = .ok (.aload_n 0, 1) := by decide +kernel
theorem dX9_copyFrom_73 : decode cX9_copyFrom 73 = .ok (.aload_n 1, 1) := by decide +kernel
theorem dX9_copyFrom_74 : decode cX9_copyFrom 74 = .ok (.getfield 74, 3) := by decide +kernel
theorem dX9_copyFrom_77 : decode cX9_copyFrom 77 = .ok (.putfield 74, 3) := by decide +kernel
theorem dX9_copyFrom_80 : decode cX9_copyFrom 80 = .ok (.aload_n 0, 1) := by decide +kernel
theorem dX9_copyFrom_81 : decode cX9_copyFrom 81 = .ok (.aload_n 1, 1) := by decide +kernel
theorem dX9_copyFrom_82 : decode cX9_copyFrom 82 = .ok (.getfield 77, 3) := by decide +kernel
theorem dX9_copyFrom_85 : decode cX9_copyFrom 85 = .ok (.putfield 77, 3) := by decide +kernel
theorem dX9_copyFrom_88 : decode cX9_copyFrom 88 = .ok (.aload_n 0, 1) := by decide +kernel
theorem dX9_copyFrom_89 : decode cX9_copyFrom 89 = .ok (.aload_n 1, 1) := by decide +kernel
theorem dX9_copyFrom_90 : decode cX9_copyFrom 90 = .ok (.getfield 80, 3) := by decide +kernel
theorem dX9_copyFrom_93 : decode cX9_copyFrom 93 = .ok (.putfield 80, 3) := by decide +kernel
theorem dX9_copyFrom_96 : decode cX9_copyFrom 96 = .ok (.iconst 0, 1) := by decide +kernel
theorem dX9_copyFrom_97 : decode cX9_copyFrom 97 = .ok (.istore_n 2, 1) := by decide +kernel
theorem dX9_copyFrom_98 : decode cX9_copyFrom 98 = .ok (.iload_n 2, 1) := by decide +kernel
theorem dX9_copyFrom_99 : decode cX9_copyFrom 99 = .ok (.aload_n 0, 1) := by decide +kernel
theorem dX9_copyFrom_100 : decode cX9_copyFrom 100 = .ok (.getfield 77, 3) := by decide +kernel
theorem dX9_copyFrom_103 : decode cX9_copyFrom 103 = .ok (.if_icmp .ge 24, 3) := by decide +kernel
theorem dX9_copyFrom_106 : decode cX9_copyFrom 106 = .ok (.aload_n 0, 1) := by decide +kernel
theorem dX9_copyFrom_107 : decode cX9_copyFrom 107 = .ok (.getfield 13, 3) := by decide +kernel
theorem dX9_copyFrom_110 : decode cX9_copyFrom 110 = .ok (.iload_n 2, 1) := by decide +kernel
theorem dX9_copyFrom_111 : decode cX9_copyFrom 111 = .ok (.aaload, 1) := by decide +kernel
theorem dX9_copyFrom_112 : decode cX9_copyFrom 112 = .ok (.aload_n 1, 1) := by decide +kernel
theorem dX9_copyFrom_113 : decode cX9_copyFrom 113 = .ok (.getfield 13, 3) := by decide +kernel
theorem dX9_copyFrom_116 : decode cX9_copyFrom 116 = .ok (.iload_n 2, 1) := by decide +kernel
theorem dX9_copyFrom_117 : decode cX9_copyFrom 117 = .ok (.aaload, 1) := by decide +kernel
theorem dX9_copyFrom_118 : decode cX9_copyFrom 118 = .ok (.invokevirtual 91, 3) := by decide +kernel
theorem dX9_copyFrom_121 : decode cX9_copyFrom 121 = .ok (.iinc 2 1, 3) := by decide +kernel
theorem dX9_copyFrom_124 : decode cX9_copyFrom 124 = .ok (.goto (-26), 3) := by decide +kernel
theorem dX9_copyFrom_127 : decode cX9_copyFrom 127 = .ok (.aload_n 0, 1) := by decide +kernel
theorem dX9_copyFrom_128 : decode cX9_copyFrom 128 = .ok (.getfield 18, 3) := by decide +kernel
theorem dX9_copyFrom_131 : decode cX9_copyFrom 131 = .ok (.aload_n 1, 1) := by decide +kernel
theorem dX9_copyFrom_132 : decode cX9_copyFrom 132 = .ok (.getfield 18, 3) := by decide +kernel
theorem dX9_copyFrom_135 : decode cX9_copyFrom 135 = .ok (.invokevirtual 91, 3) := by decide +kernel
theorem dX9_copyFrom_138 : decode cX9_copyFrom 138 = .ok (.aload_n 0, 1) := by decide +kernel
theorem dX9_copyFrom_139 : decode cX9_copyFrom 139 = .ok (.getfield 25, 3) := by decide +kernel
theorem dX9_copyFrom_142 : decode cX9_copyFrom 142 = .ok (.aload_n 1, 1) := by decide +kernel
theorem dX9_copyFrom_143 : decode cX9_copyFrom 143 = .ok (.getfield 25, 3) := by decide +kernel
theorem dX9_copyFrom_146 : decode cX9_copyFrom 146 = .ok (.invokevirtual 95, 3) := by decide +kernel
theorem dX9_copyFrom_149 : decode cX9_copyFrom 149 = .ok (.aload_n 0, 1) := by decide +kernel
theorem dX9_copyFrom_150 : decode cX9_copyFrom 150 = .ok (.getfield 29, 3) := by decide +kernel
theorem dX9_copyFrom_153 : decode cX9_copyFrom 153 = .ok (.aload_n 1, 1) := by decide +kernel
theorem dX9_copyFrom_154 : decode cX9_copyFrom 154 = .ok (.getfield 29, 3) := by decide +kernel
theorem dX9_copyFrom_157 : decode cX9_copyFrom 157 = .ok (.invokevirtual 95, 3) := by decide +kernel
theorem dX9_copyFrom_160 : decode cX9_copyFrom 160 = .ok (.aload_n 0, 1) := by decide +kernel
theorem dX9_copyFrom_161 : decode cX9_copyFrom 161 = .ok (.getfield 35, 3) := by decide +kernel
theorem dX9_copyFrom_164 : decode cX9_copyFrom 164 = .ok (.aload_n 1, 1) := by decide +kernel
theorem dX9_copyFrom_165 : decode cX9_copyFrom 165 = .ok (.getfield 35, 3) := by decide +kernel
theorem dX9_copyFrom_168 : decode cX9_copyFrom 168 = .ok (.invokevirtual 98, 3) := by decide +kernel
theorem dX9_copyFrom_171 : decode cX9_copyFrom 171 = .ok (.aload_n 0, 1) := by decide +kernel
theorem dX9_copyFrom_172 : decode cX9_copyFrom 172 = .ok (.getfield 42, 3) := by decide +kernel
theorem dX9_copyFrom_175 : decode cX9_copyFrom 175 = .ok (.aload_n 1, 1) := by decide +kernel
theorem dX9_copyFrom_176 : decode cX9_copyFrom 176 = .ok (.getfield 42, 3) := by decide +kernel
theorem dX9_copyFrom_179 : decode cX9_copyFrom 179 = .ok (.invokevirtual 101, 3) := by decide +kernel
theorem dX9_copyFrom_182 : decode cX9_copyFrom 182 = .ok (.return_, 1) := by decide +kernel
theorem dX9_chuteCount_0 : decode cX9_chuteCount 0 = .ok (.aload_n 0, 1) := by decide +kernel
theorem dX9_chuteCount_1 : decode cX9_chuteCount 1 = .ok (.getfield 80, 3) := by decide +kernel
theorem dX9_chuteCount_4 : decode cX9_chuteCount 4 = .ok (.ifCond .eq 12, 3) := by decide +kernel
theorem dX9_chuteCount_7 : decode cX9_chuteCount 7 = .ok (.aload_n 0, 1) := by decide +kernel
theorem dX9_chuteCount_8 : decode cX9_chuteCount 8 = .ok (.getfield 77, 3) := by decide +kernel
theorem dX9_chuteCount_11 : decode cX9_chuteCount 11 = .ok (.iconst 1, 1) := by decide +kernel
theorem dX9_chuteCount_12 : decode cX9_chuteCount 12 = .ok (.iadd, 1) := by decide +kernel
theorem dX9_chuteCount_13 : decode cX9_chuteCount 13 = .ok (.goto 7, 3) := by decide +kernel
theorem dX9_chuteCount_16 : decode cX9_chuteCount 16 = .ok (.aload_n 0, 1) := by decide +kernel
theorem dX9_chuteCount_17 : decode cX9_chuteCount 17 = .ok (.getfield 77, 3) := by decide +kernel
theorem dX9_chuteCount_20 : decode cX9_chuteCount 20 = .ok (.ireturn, 1) := by decide +kernel
theorem dX9_hasLayer_0 : decode cX9_hasLayer 0 = .ok (.iload_n 1, 1) := by decide +kernel
theorem dX9_hasLayer_1 : decode cX9_hasLayer 1 = .ok (.ifCond .lt 15, 3) := by decide +kernel
theorem dX9_hasLayer_4 : decode cX9_hasLayer 4 = .ok (.iload_n 1, 1) := by decide +kernel
theorem dX9_hasLayer_5 : decode cX9_hasLayer 5 = .ok (.aload_n 0, 1) := by decide +kernel
theorem dX9_hasLayer_6 : decode cX9_hasLayer 6 = .ok (.getfield 77, 3) := by decide +kernel
theorem dX9_hasLayer_9 : decode cX9_hasLayer 9 = .ok (.if_icmp .ge 7, 3) := by decide +kernel
theorem dX9_hasLayer_12 : decode cX9_hasLayer 12 = .ok (.iconst 1, 1) := by decide +kernel
theorem dX9_hasLayer_13 : decode cX9_hasLayer 13 = .ok (.goto 4, 3) := by decide +kernel
theorem dX9_hasLayer_16 : decode cX9_hasLayer 16 = .ok (.iconst 0, 1) := by decide +kernel
theorem dX9_hasLayer_17 : decode cX9_hasLayer 17 = .ok (.ireturn, 1) := by decide +kernel
theorem dX9_hasChute_0 : decode cX9_hasChute 0 = .ok (.iload_n 1, 1) := by decide +kernel
theorem dX9_hasChute_1 : decode cX9_hasChute 1 = .ok (.ifCond .lt 15, 3) := by decide +kernel
theorem dX9_hasChute_4 : decode cX9_hasChute 4 = .ok (.iload_n 1, 1) := by decide +kernel
theorem dX9_hasChute_5 : decode cX9_hasChute 5 = .ok (.aload_n 0, 1) := by decide +kernel
theorem dX9_hasChute_6 : decode cX9_hasChute 6 = .ok (.invokevirtual 104, 3) := by decide +kernel
theorem dX9_hasChute_9 : decode cX9_hasChute 9 = .ok (.if_icmp .ge 7, 3) := by decide +kernel
theorem dX9_hasChute_12 : decode cX9_hasChute 12 = .ok (.iconst 1, 1) := by decide +kernel
theorem dX9_hasChute_13 : decode cX9_hasChute 13 = .ok (.goto 4, 3) := by decide +kernel
theorem dX9_hasChute_16 : decode cX9_hasChute 16 = .ok (.iconst 0, 1) := by decide +kernel
theorem dX9_hasChute_17 : decode cX9_hasChute 17 = .ok (.ireturn, 1) := by decide +kernel
theorem dX9_chuteAt_0 : decode cX9_chuteAt 0 = .ok (.aload_n 0, 1) := by decide +kernel
theorem dX9_chuteAt_1 : decode cX9_chuteAt 1 = .ok (.iload_n 1, 1) := by decide +kernel
theorem dX9_chuteAt_2 : decode cX9_chuteAt 2 = .ok (.invokevirtual 108, 3) := by decide +kernel
theorem dX9_chuteAt_5 : decode cX9_chuteAt 5 = .ok (.ifCond .eq 12, 3) := by decide +kernel
theorem dX9_chuteAt_8 : decode cX9_chuteAt 8 = .ok (.aload_n 0, 1) := by decide +kernel
theorem dX9_chuteAt_9 : decode cX9_chuteAt 9 = .ok (.getfield 13, 3) := by decide +kernel
theorem dX9_chuteAt_12 : decode cX9_chuteAt 12 = .ok (.iload_n 1, 1) := by decide +kernel
theorem dX9_chuteAt_13 : decode cX9_chuteAt 13 = .ok (.aaload, 1) := by decide +kernel
theorem dX9_chuteAt_14 : decode cX9_chuteAt 14 = .ok (.goto 7, 3) := by decide +kernel
theorem dX9_chuteAt_17 : decode cX9_chuteAt 17 = .ok (.aload_n 0, 1) := by decide +kernel
theorem dX9_chuteAt_18 : decode cX9_chuteAt 18 = .ok (.getfield 18, 3) := by decide +kernel
theorem dX9_chuteAt_21 : decode cX9_chuteAt 21 = .ok (.areturn, 1) := by decide +kernel
theorem dX9_hasLanded_0 : decode cX9_hasLanded 0 = .ok (.aload_n 0, 1) := by decide +kernel
theorem dX9_hasLanded_1 : decode cX9_hasLanded 1 = .ok (.getfield 46, 3) := by decide +kernel
theorem dX9_hasLanded_4 : decode cX9_hasLanded 4 = .ok (.ifCond .ne 7, 3) := by decide +kernel
theorem dX9_hasLanded_7 : decode cX9_hasLanded 7 = .ok (.iconst 1, 1) := by decide +kernel
theorem dX9_hasLanded_8 : decode cX9_hasLanded 8 = .ok (.goto 4, 3) := by decide +kernel
theorem dX9_hasLanded_11 : decode cX9_hasLanded 11 = .ok (.iconst 0, 1) := by decide +kernel
theorem dX9_hasLanded_12 : decode cX9_hasLanded 12 = .ok (.ireturn, 1) := by decide +kernel
theorem dX9_air_0 : decode cX9_air 0 = .ok (.bipush 100, 2) := by decide +kernel
theorem dX9_air_2 : decode cX9_air 2 = .ok (.aload_n 0, 1) := by decide +kernel
theorem dX9_air_3 : decode cX9_air 3 = .ok (.getfield 46, 3) := by decide +kernel
theorem dX9_air_6 : decode cX9_air 6 = .ok (.sipush 400, 3) := by decide +kernel
theorem dX9_air_9 : decode cX9_air 9 = .ok (.idiv, 1) := by decide +kernel
theorem dX9_air_10 : decode cX9_air 10 = .ok (.isub, 1) := by decide +kernel
theorem dX9_air_11 : decode cX9_air 11 = .ok (.ireturn, 1) := by decide +kernel
theorem dX9_asksForBrakes_0 : decode cX9_asksForBrakes 0 = .ok (.aload_n 0, 1) := by decide +kernel
theorem dX9_asksForBrakes_1 : decode cX9_asksForBrakes 1 = .ok (.getfield 25, 3) := by decide +kernel
theorem dX9_asksForBrakes_4 : decode cX9_asksForBrakes 4 = .ok (.aload_n 0, 1) := by decide +kernel
theorem dX9_asksForBrakes_5 : decode cX9_asksForBrakes 5 = .ok (.getfield 46, 3) := by decide +kernel
theorem dX9_asksForBrakes_8 : decode cX9_asksForBrakes 8 = .ok (.iconst (-1), 1) := by decide +kernel
theorem dX9_asksForBrakes_9 : decode cX9_asksForBrakes 9 = .ok (.invokevirtual 112, 3) := by decide +kernel
theorem dX9_asksForBrakes_12 : decode cX9_asksForBrakes 12 = .ok (.istore_n 1, 1) := by decide +kernel
theorem dX9_asksForBrakes_13 : decode cX9_asksForBrakes 13 = .ok (.iload_n 1, 1) := by decide +kernel
theorem dX9_asksForBrakes_14 : decode cX9_asksForBrakes 14 = .ok (.iconst (-1), 1) := by decide +kernel
theorem dX9_asksForBrakes_15 : decode cX9_asksForBrakes 15 = .ok (.if_icmp .eq 15, 3) := by decide +kernel
theorem dX9_asksForBrakes_18 : decode cX9_asksForBrakes 18 = .ok (.aload_n 0, 1) := by decide +kernel
theorem dX9_asksForBrakes_19 : decode cX9_asksForBrakes 19 = .ok (.getfield 50, 3) := by decide +kernel
theorem dX9_asksForBrakes_22 : decode cX9_asksForBrakes 22 = .ok (.iload_n 1, 1) := by decide +kernel
theorem dX9_asksForBrakes_23 : decode cX9_asksForBrakes 23 = .ok (.if_icmp .le 7, 3) := by decide +kernel
theorem dX9_asksForBrakes_26 : decode cX9_asksForBrakes 26 = .ok (.iconst 1, 1) := by decide +kernel
theorem dX9_asksForBrakes_27 : decode cX9_asksForBrakes 27 = .ok (.goto 4, 3) := by decide +kernel
theorem dX9_asksForBrakes_30 : decode cX9_asksForBrakes 30 = .ok (.iconst 0, 1) := by decide +kernel
theorem dX9_asksForBrakes_31 : decode cX9_asksForBrakes 31 = .ok (.ireturn, 1) := by decide +kernel
theorem dX9_openChutes_0 : decode cX9_openChutes 0 = .ok (.iconst 0, 1) := by decide +kernel
theorem dX9_openChutes_1 : decode cX9_openChutes 1 = .ok (.istore_n 1, 1) := by decide +kernel
theorem dX9_openChutes_2 : decode cX9_openChutes 2 = .ok (.aload_n 0, 1) := by decide +kernel
theorem dX9_openChutes_3 : decode cX9_openChutes 3 = .ok (.invokevirtual 104, 3) := by decide +kernel
theorem dX9_openChutes_6 : decode cX9_openChutes 6 = .ok (.istore_n 2, 1) := by decide +kernel
theorem dX9_openChutes_7 : decode cX9_openChutes 7 = .ok (.iconst 0, 1) := by decide +kernel
theorem dX9_openChutes_8 : decode cX9_openChutes 8 = .ok (.istore_n 3, 1) := by decide +kernel
theorem dX9_openChutes_9 : decode cX9_openChutes 9 = .ok (.iload_n 3, 1) := by decide +kernel
theorem dX9_openChutes_10 : decode cX9_openChutes 10 = .ok (.iload_n 2, 1) := by decide +kernel
theorem dX9_openChutes_11 : decode cX9_openChutes 11 = .ok (.if_icmp .ge 24, 3) := by decide +kernel
theorem dX9_openChutes_14 : decode cX9_openChutes 14 = .ok (.aload_n 0, 1) := by decide +kernel
theorem dX9_openChutes_15 : decode cX9_openChutes 15 = .ok (.iload_n 3, 1) := by decide +kernel
theorem dX9_openChutes_16 : decode cX9_openChutes 16 = .ok (.invokevirtual 116, 3) := by decide +kernel
theorem dX9_openChutes_19 : decode cX9_openChutes 19 = .ok (.getfield 120, 3) := by decide +kernel
theorem dX9_openChutes_22 : decode cX9_openChutes 22 = .ok (.iconst 1, 1) := by decide +kernel
theorem dX9_openChutes_23 : decode cX9_openChutes 23 = .ok (.if_icmp .ne 6, 3) := by decide +kernel
theorem dX9_openChutes_26 : decode cX9_openChutes 26 = .ok (.iinc 1 1, 3) := by decide +kernel
theorem dX9_openChutes_29 : decode cX9_openChutes 29 = .ok (.iinc 3 1, 3) := by decide +kernel
theorem dX9_openChutes_32 : decode cX9_openChutes 32 = .ok (.goto (-23), 3) := by decide +kernel
theorem dX9_openChutes_35 : decode cX9_openChutes 35 = .ok (.iload_n 1, 1) := by decide +kernel
theorem dX9_openChutes_36 : decode cX9_openChutes 36 = .ok (.ireturn, 1) := by decide +kernel
theorem dX9_failedLayers_0 : decode cX9_failedLayers 0 = .ok (.iconst 0, 1) := by decide +kernel
theorem dX9_failedLayers_1 : decode cX9_failedLayers 1 = .ok (.istore_n 1, 1) := by decide +kernel
theorem dX9_failedLayers_2 : decode cX9_failedLayers 2 = .ok (.iconst 0, 1) := by decide +kernel
theorem dX9_failedLayers_3 : decode cX9_failedLayers 3 = .ok (.istore_n 2, 1) := by decide +kernel
theorem dX9_failedLayers_4 : decode cX9_failedLayers 4 = .ok (.iload_n 2, 1) := by decide +kernel
theorem dX9_failedLayers_5 : decode cX9_failedLayers 5 = .ok (.aload_n 0, 1) := by decide +kernel
theorem dX9_failedLayers_6 : decode cX9_failedLayers 6 = .ok (.getfield 77, 3) := by decide +kernel
theorem dX9_failedLayers_9 : decode cX9_failedLayers 9 = .ok (.if_icmp .ge 24, 3) := by decide +kernel
theorem dX9_failedLayers_12 : decode cX9_failedLayers 12 = .ok (.aload_n 0, 1) := by decide +kernel
theorem dX9_failedLayers_13 : decode cX9_failedLayers 13 = .ok (.getfield 13, 3) := by decide +kernel
theorem dX9_failedLayers_16 : decode cX9_failedLayers 16 = .ok (.iload_n 2, 1) := by decide +kernel
theorem dX9_failedLayers_17 : decode cX9_failedLayers 17 = .ok (.aaload, 1) := by decide +kernel
theorem dX9_failedLayers_18 : decode cX9_failedLayers 18 = .ok (.invokevirtual 123, 3) := by decide +kernel
theorem dX9_failedLayers_21 : decode cX9_failedLayers 21 = .ok (.ifCond .eq 6, 3) := by decide +kernel
theorem dX9_failedLayers_24 : decode cX9_failedLayers 24 = .ok (.iinc 1 1, 3) := by decide +kernel
theorem dX9_failedLayers_27 : decode cX9_failedLayers 27 = .ok (.iinc 2 1, 3) := by decide +kernel
theorem dX9_failedLayers_30 : decode cX9_failedLayers 30 = .ok (.goto (-26), 3) := by decide +kernel
theorem dX9_failedLayers_33 : decode cX9_failedLayers 33 = .ok (.iload_n 1, 1) := by decide +kernel
theorem dX9_failedLayers_34 : decode cX9_failedLayers 34 = .ok (.ireturn, 1) := by decide +kernel
theorem dX9_packedJammedLayers_0 : decode cX9_packedJammedLayers 0 = .ok (.iconst 0, 1) := by decide +kernel
theorem dX9_packedJammedLayers_1 : decode cX9_packedJammedLayers 1 = .ok (.istore_n 1, 1) := by decide +kernel
theorem dX9_packedJammedLayers_2 : decode cX9_packedJammedLayers 2 = .ok (.iconst 0, 1) := by decide +kernel
theorem dX9_packedJammedLayers_3 : decode cX9_packedJammedLayers 3 = .ok (.istore_n 2, 1) := by decide +kernel
theorem dX9_packedJammedLayers_4 : decode cX9_packedJammedLayers 4 = .ok (.iload_n 2, 1) := by decide +kernel
theorem dX9_packedJammedLayers_5 : decode cX9_packedJammedLayers 5 = .ok (.aload_n 0, 1) := by decide +kernel
theorem dX9_packedJammedLayers_6 : decode cX9_packedJammedLayers 6 = .ok (.getfield 77, 3) := by decide +kernel
theorem dX9_packedJammedLayers_9 : decode cX9_packedJammedLayers 9 = .ok (.if_icmp .ge 36, 3) := by decide +kernel
theorem dX9_packedJammedLayers_12 : decode cX9_packedJammedLayers 12 = .ok (.aload_n 0, 1) := by decide +kernel
theorem dX9_packedJammedLayers_13 : decode cX9_packedJammedLayers 13 = .ok (.getfield 13, 3) := by decide +kernel
theorem dX9_packedJammedLayers_16 : decode cX9_packedJammedLayers 16 = .ok (.iload_n 2, 1) := by decide +kernel
theorem dX9_packedJammedLayers_17 : decode cX9_packedJammedLayers 17 = .ok (.aaload, 1) := by decide +kernel
theorem dX9_packedJammedLayers_18 : decode cX9_packedJammedLayers 18 = .ok (.getfield 120, 3) := by decide +kernel
theorem dX9_packedJammedLayers_21 : decode cX9_packedJammedLayers 21 = .ok (.ifCond .ne 18, 3) := by decide +kernel
theorem dX9_packedJammedLayers_24 : decode cX9_packedJammedLayers 24 = .ok (.aload_n 0, 1) := by decide +kernel
theorem dX9_packedJammedLayers_25 : decode cX9_packedJammedLayers 25 = .ok (.getfield 13, 3) := by decide +kernel
theorem dX9_packedJammedLayers_28 : decode cX9_packedJammedLayers 28 = .ok (.iload_n 2, 1) := by decide +kernel
theorem dX9_packedJammedLayers_29 : decode cX9_packedJammedLayers 29 = .ok (.aaload, 1) := by decide +kernel
theorem dX9_packedJammedLayers_30 : decode cX9_packedJammedLayers 30 = .ok (.getfield 127, 3) := by decide +kernel
theorem dX9_packedJammedLayers_33 : decode cX9_packedJammedLayers 33 = .ok (.ifCond .eq 6, 3) := by decide +kernel
theorem dX9_packedJammedLayers_36 : decode cX9_packedJammedLayers 36 = .ok (.iinc 1 1, 3) := by decide +kernel
theorem dX9_packedJammedLayers_39 : decode cX9_packedJammedLayers 39 = .ok (.iinc 2 1, 3) := by decide +kernel
theorem dX9_packedJammedLayers_42 : decode cX9_packedJammedLayers 42 = .ok (.goto (-38), 3) := by decide +kernel
theorem dX9_packedJammedLayers_45 : decode cX9_packedJammedLayers 45 = .ok (.iload_n 1, 1) := by decide +kernel
theorem dX9_packedJammedLayers_46 : decode cX9_packedJammedLayers 46 = .ok (.ireturn, 1) := by decide +kernel
theorem dX9_countLines_0 : decode cX9_countLines 0 = .ok (.iconst 0, 1) := by decide +kernel
theorem dX9_countLines_1 : decode cX9_countLines 1 = .ok (.istore_n 2, 1) := by decide +kernel
theorem dX9_countLines_2 : decode cX9_countLines 2 = .ok (.iconst 0, 1) := by decide +kernel
theorem dX9_countLines_3 : decode cX9_countLines 3 = .ok (.istore_n 3, 1) := by decide +kernel
theorem dX9_countLines_4 : decode cX9_countLines 4 = .ok (.iconst 0, 1) := by decide +kernel
theorem dX9_countLines_5 : decode cX9_countLines 5 = .ok (.istore 4, 2) := by decide +kernel
theorem dX9_countLines_7 : decode cX9_countLines 7 = .ok (.aload_n 0, 1) := by decide +kernel
theorem dX9_countLines_8 : decode cX9_countLines 8 = .ok (.invokevirtual 104, 3) := by decide +kernel
theorem dX9_countLines_11 : decode cX9_countLines 11 = .ok (.istore 5, 2) := by decide +kernel
theorem dX9_countLines_13 : decode cX9_countLines 13 = .ok (.iconst 0, 1) := by decide +kernel
theorem dX9_countLines_14 : decode cX9_countLines 14 = .ok (.istore 6, 2) := by decide +kernel
theorem dX9_countLines_16 : decode cX9_countLines 16 = .ok (.iload 6, 2) := by decide +kernel
theorem dX9_countLines_18 : decode cX9_countLines 18 = .ok (.iload 5, 2) := by decide +kernel
theorem dX9_countLines_20 : decode cX9_countLines 20 = .ok (.if_icmp .ge 52, 3) := by decide +kernel
theorem dX9_countLines_23 : decode cX9_countLines 23 = .ok (.aload_n 0, 1) := by decide +kernel
theorem dX9_countLines_24 : decode cX9_countLines 24 = .ok (.iload 6, 2) := by decide +kernel
theorem dX9_countLines_26 : decode cX9_countLines 26 = .ok (.invokevirtual 116, 3) := by decide +kernel
theorem dX9_countLines_29 : decode cX9_countLines 29 = .ok (.astore 7, 2) := by decide +kernel
theorem dX9_countLines_31 : decode cX9_countLines 31 = .ok (.iload_n 2, 1) := by decide +kernel
theorem dX9_countLines_32 : decode cX9_countLines 32 = .ok (.aload 7, 2) := by decide +kernel
theorem dX9_countLines_34 : decode cX9_countLines 34 = .ok (.getfield 130, 3) := by decide +kernel
theorem dX9_countLines_37 : decode cX9_countLines 37 = .ok (.iadd, 1) := by decide +kernel
theorem dX9_countLines_38 : decode cX9_countLines 38 = .ok (.istore_n 2, 1) := by decide +kernel
theorem dX9_countLines_39 : decode cX9_countLines 39 = .ok (.iload_n 3, 1) := by decide +kernel
theorem dX9_countLines_40 : decode cX9_countLines 40 = .ok (.aload 7, 2) := by decide +kernel
theorem dX9_countLines_42 : decode cX9_countLines 42 = .ok (.getfield 133, 3) := by decide +kernel
theorem dX9_countLines_45 : decode cX9_countLines 45 = .ok (.iadd, 1) := by decide +kernel
theorem dX9_countLines_46 : decode cX9_countLines 46 = .ok (.istore_n 3, 1) := by decide +kernel
theorem dX9_countLines_47 : decode cX9_countLines 47 = .ok (.aload 7, 2) := by decide +kernel
theorem dX9_countLines_49 : decode cX9_countLines 49 = .ok (.getfield 120, 3) := by decide +kernel
theorem dX9_countLines_52 : decode cX9_countLines 52 = .ok (.iconst 4, 1) := by decide +kernel
theorem dX9_countLines_53 : decode cX9_countLines 53 = .ok (.if_icmp .ne 13, 3) := by decide +kernel
theorem dX9_countLines_56 : decode cX9_countLines 56 = .ok (.iload 4, 2) := by decide +kernel
theorem dX9_countLines_58 : decode cX9_countLines 58 = .ok (.aload 7, 2) := by decide +kernel
theorem dX9_countLines_60 : decode cX9_countLines 60 = .ok (.invokevirtual 136, 3) := by decide +kernel
theorem dX9_countLines_63 : decode cX9_countLines 63 = .ok (.iadd, 1) := by decide +kernel
theorem dX9_countLines_64 : decode cX9_countLines 64 = .ok (.istore 4, 2) := by decide +kernel
theorem dX9_countLines_66 : decode cX9_countLines 66 = .ok (.iinc 6 1, 3) := by decide +kernel
theorem dX9_countLines_69 : decode cX9_countLines 69 = .ok (.goto (-53), 3) := by decide +kernel
theorem dX9_countLines_72 : decode cX9_countLines 72 = .ok (.iload_n 1, 1) := by decide +kernel
theorem dX9_countLines_73 : decode cX9_countLines 73 = .ok (.tableswitch 38 10 12 #[27, 29, 36], 27) := by decide +kernel
theorem dX9_countLines_100 : decode cX9_countLines 100 = .ok (.iload_n 2, 1) := by decide +kernel
theorem dX9_countLines_101 : decode cX9_countLines 101 = .ok (.ireturn, 1) := by decide +kernel
theorem dX9_countLines_102 : decode cX9_countLines 102 = .ok (.iload_n 2, 1) := by decide +kernel
theorem dX9_countLines_103 : decode cX9_countLines 103 = .ok (.iload_n 3, 1) := by decide +kernel
theorem dX9_countLines_104 : decode cX9_countLines 104 = .ok (.isub, 1) := by decide +kernel
theorem dX9_countLines_105 : decode cX9_countLines 105 = .ok (.iload 4, 2) := by decide +kernel
theorem dX9_countLines_107 : decode cX9_countLines 107 = .ok (.isub, 1) := by decide +kernel
theorem dX9_countLines_108 : decode cX9_countLines 108 = .ok (.ireturn, 1) := by decide +kernel
theorem dX9_countLines_109 : decode cX9_countLines 109 = .ok (.iload_n 3, 1) := by decide +kernel
theorem dX9_countLines_110 : decode cX9_countLines 110 = .ok (.ireturn, 1) := by decide +kernel
theorem dX9_countLines_111 : decode cX9_countLines 111 = .ok (.iload 4, 2) := by decide +kernel
theorem dX9_countLines_113 : decode cX9_countLines 113 = .ok (.ireturn, 1) := by decide +kernel
theorem dX9_firstLayerThatMayOpen_0 : decode cX9_firstLayerThatMayOpen 0 = .ok (.iconst 0, 1) := by decide +kernel
theorem dX9_firstLayerThatMayOpen_1 : decode cX9_firstLayerThatMayOpen 1 = .ok (.istore_n 1, 1) := by decide +kernel
theorem dX9_firstLayerThatMayOpen_2 : decode cX9_firstLayerThatMayOpen 2 = .ok (.iload_n 1, 1) := by decide +kernel
theorem dX9_firstLayerThatMayOpen_3 : decode cX9_firstLayerThatMayOpen 3 = .ok (.aload_n 0, 1) := by decide +kernel
theorem dX9_firstLayerThatMayOpen_4 : decode cX9_firstLayerThatMayOpen 4 = .ok (.getfield 77, 3) := by decide +kernel
theorem dX9_firstLayerThatMayOpen_7 : decode cX9_firstLayerThatMayOpen 7 = .ok (.if_icmp .ge 43, 3) := by decide +kernel
theorem dX9_firstLayerThatMayOpen_10 : decode cX9_firstLayerThatMayOpen 10 = .ok (.aload_n 0, 1) := by decide +kernel
theorem dX9_firstLayerThatMayOpen_11 : decode cX9_firstLayerThatMayOpen 11 = .ok (.getfield 13, 3) := by decide +kernel
theorem dX9_firstLayerThatMayOpen_14 : decode cX9_firstLayerThatMayOpen 14 = .ok (.iload_n 1, 1) := by decide +kernel
theorem dX9_firstLayerThatMayOpen_15 : decode cX9_firstLayerThatMayOpen 15 = .ok (.aaload, 1) := by decide +kernel
theorem dX9_firstLayerThatMayOpen_16 : decode cX9_firstLayerThatMayOpen 16 = .ok (.aload_n 0, 1) := by decide +kernel
theorem dX9_firstLayerThatMayOpen_17 : decode cX9_firstLayerThatMayOpen 17 = .ok (.getfield 46, 3) := by decide +kernel
theorem dX9_firstLayerThatMayOpen_20 : decode cX9_firstLayerThatMayOpen 20 = .ok (.invokevirtual 139, 3) := by decide +kernel
theorem dX9_firstLayerThatMayOpen_23 : decode cX9_firstLayerThatMayOpen 23 = .ok (.ifCond .eq 21, 3) := by decide +kernel
theorem dX9_firstLayerThatMayOpen_26 : decode cX9_firstLayerThatMayOpen 26 = .ok (.aload_n 0, 1) := by decide +kernel
theorem dX9_firstLayerThatMayOpen_27 : decode cX9_firstLayerThatMayOpen 27 = .ok (.getfield 50, 3) := by decide +kernel
theorem dX9_firstLayerThatMayOpen_30 : decode cX9_firstLayerThatMayOpen 30 = .ok (.aload_n 0, 1) := by decide +kernel
theorem dX9_firstLayerThatMayOpen_31 : decode cX9_firstLayerThatMayOpen 31 = .ok (.getfield 13, 3) := by decide +kernel
theorem dX9_firstLayerThatMayOpen_34 : decode cX9_firstLayerThatMayOpen 34 = .ok (.iload_n 1, 1) := by decide +kernel
theorem dX9_firstLayerThatMayOpen_35 : decode cX9_firstLayerThatMayOpen 35 = .ok (.aaload, 1) := by decide +kernel
theorem dX9_firstLayerThatMayOpen_36 : decode cX9_firstLayerThatMayOpen 36 = .ok (.getfield 142, 3) := by decide +kernel
theorem dX9_firstLayerThatMayOpen_39 : decode cX9_firstLayerThatMayOpen 39 = .ok (.if_icmp .gt 5, 3) := by decide +kernel
theorem dX9_firstLayerThatMayOpen_42 : decode cX9_firstLayerThatMayOpen 42 = .ok (.iload_n 1, 1) := by decide +kernel
theorem dX9_firstLayerThatMayOpen_43 : decode cX9_firstLayerThatMayOpen 43 = .ok (.ireturn, 1) := by decide +kernel
theorem dX9_firstLayerThatMayOpen_44 : decode cX9_firstLayerThatMayOpen 44 = .ok (.iinc 1 1, 3) := by decide +kernel
theorem dX9_firstLayerThatMayOpen_47 : decode cX9_firstLayerThatMayOpen 47 = .ok (.goto (-45), 3) := by decide +kernel
theorem dX9_firstLayerThatMayOpen_50 : decode cX9_firstLayerThatMayOpen 50 = .ok (.iconst (-1), 1) := by decide +kernel
theorem dX9_firstLayerThatMayOpen_51 : decode cX9_firstLayerThatMayOpen 51 = .ok (.ireturn, 1) := by decide +kernel
theorem dX9_whyLayer_0 : decode cX9_whyLayer 0 = .ok (.aload_n 0, 1) := by decide +kernel
theorem dX9_whyLayer_1 : decode cX9_whyLayer 1 = .ok (.getfield 13, 3) := by decide +kernel
theorem dX9_whyLayer_4 : decode cX9_whyLayer 4 = .ok (.iload_n 1, 1) := by decide +kernel
theorem dX9_whyLayer_5 : decode cX9_whyLayer 5 = .ok (.aaload, 1) := by decide +kernel
theorem dX9_whyLayer_6 : decode cX9_whyLayer 6 = .ok (.astore_n 2, 1) := by decide +kernel
theorem dX9_whyLayer_7 : decode cX9_whyLayer 7 = .ok (.aload_n 2, 1) := by decide +kernel
theorem dX9_whyLayer_8 : decode cX9_whyLayer 8 = .ok (.getfield 120, 3) := by decide +kernel
theorem dX9_whyLayer_11 : decode cX9_whyLayer 11 = .ok (.tableswitch 37 1 4 #[29, 31, 33, 35], 29) := by decide +kernel
theorem dX9_whyLayer_40 : decode cX9_whyLayer 40 = .ok (.iconst 0, 1) := by decide +kernel
theorem dX9_whyLayer_41 : decode cX9_whyLayer 41 = .ok (.ireturn, 1) := by decide +kernel
theorem dX9_whyLayer_42 : decode cX9_whyLayer 42 = .ok (.iconst 1, 1) := by decide +kernel
theorem dX9_whyLayer_43 : decode cX9_whyLayer 43 = .ok (.ireturn, 1) := by decide +kernel
theorem dX9_whyLayer_44 : decode cX9_whyLayer 44 = .ok (.iconst 2, 1) := by decide +kernel
theorem dX9_whyLayer_45 : decode cX9_whyLayer 45 = .ok (.ireturn, 1) := by decide +kernel
theorem dX9_whyLayer_46 : decode cX9_whyLayer 46 = .ok (.iconst 3, 1) := by decide +kernel
theorem dX9_whyLayer_47 : decode cX9_whyLayer 47 = .ok (.ireturn, 1) := by decide +kernel
theorem dX9_whyLayer_48 : decode cX9_whyLayer 48 = .ok (.aload_n 0, 1) := by decide +kernel
theorem dX9_whyLayer_49 : decode cX9_whyLayer 49 = .ok (.getfield 46, 3) := by decide +kernel
theorem dX9_whyLayer_52 : decode cX9_whyLayer 52 = .ok (.aload_n 2, 1) := by decide +kernel
theorem dX9_whyLayer_53 : decode cX9_whyLayer 53 = .ok (.getfield 145, 3) := by decide +kernel
theorem dX9_whyLayer_56 : decode cX9_whyLayer 56 = .ok (.if_icmp .le 5, 3) := by decide +kernel
theorem dX9_whyLayer_59 : decode cX9_whyLayer 59 = .ok (.iconst 4, 1) := by decide +kernel
theorem dX9_whyLayer_60 : decode cX9_whyLayer 60 = .ok (.ireturn, 1) := by decide +kernel
theorem dX9_whyLayer_61 : decode cX9_whyLayer 61 = .ok (.aload_n 0, 1) := by decide +kernel
theorem dX9_whyLayer_62 : decode cX9_whyLayer 62 = .ok (.getfield 50, 3) := by decide +kernel
theorem dX9_whyLayer_65 : decode cX9_whyLayer 65 = .ok (.aload_n 2, 1) := by decide +kernel
theorem dX9_whyLayer_66 : decode cX9_whyLayer 66 = .ok (.getfield 142, 3) := by decide +kernel
theorem dX9_whyLayer_69 : decode cX9_whyLayer 69 = .ok (.if_icmp .le 5, 3) := by decide +kernel
theorem dX9_whyLayer_72 : decode cX9_whyLayer 72 = .ok (.iconst 5, 1) := by decide +kernel
theorem dX9_whyLayer_73 : decode cX9_whyLayer 73 = .ok (.ireturn, 1) := by decide +kernel
theorem dX9_whyLayer_74 : decode cX9_whyLayer 74 = .ok (.aload_n 0, 1) := by decide +kernel
theorem dX9_whyLayer_75 : decode cX9_whyLayer 75 = .ok (.invokevirtual 148, 3) := by decide +kernel
theorem dX9_whyLayer_78 : decode cX9_whyLayer 78 = .ok (.ifCond .ne 6, 3) := by decide +kernel
theorem dX9_whyLayer_81 : decode cX9_whyLayer 81 = .ok (.bipush 6, 2) := by decide +kernel
theorem dX9_whyLayer_83 : decode cX9_whyLayer 83 = .ok (.ireturn, 1) := by decide +kernel
theorem dX9_whyLayer_84 : decode cX9_whyLayer 84 = .ok (.aload_n 0, 1) := by decide +kernel
theorem dX9_whyLayer_85 : decode cX9_whyLayer 85 = .ok (.invokevirtual 151, 3) := by decide +kernel
theorem dX9_whyLayer_88 : decode cX9_whyLayer 88 = .ok (.iload_n 1, 1) := by decide +kernel
theorem dX9_whyLayer_89 : decode cX9_whyLayer 89 = .ok (.if_icmp .ge 8, 3) := by decide +kernel
theorem dX9_whyLayer_92 : decode cX9_whyLayer 92 = .ok (.bipush 7, 2) := by decide +kernel
theorem dX9_whyLayer_94 : decode cX9_whyLayer 94 = .ok (.goto 5, 3) := by decide +kernel
theorem dX9_whyLayer_97 : decode cX9_whyLayer 97 = .ok (.bipush 8, 2) := by decide +kernel
theorem dX9_whyLayer_99 : decode cX9_whyLayer 99 = .ok (.ireturn, 1) := by decide +kernel
theorem dX9_whyOfReserve_0 : decode cX9_whyOfReserve 0 = .ok (.aload_n 0, 1) := by decide +kernel
theorem dX9_whyOfReserve_1 : decode cX9_whyOfReserve 1 = .ok (.getfield 80, 3) := by decide +kernel
theorem dX9_whyOfReserve_4 : decode cX9_whyOfReserve 4 = .ok (.ifCond .ne 5, 3) := by decide +kernel
theorem dX9_whyOfReserve_7 : decode cX9_whyOfReserve 7 = .ok (.iconst 1, 1) := by decide +kernel
theorem dX9_whyOfReserve_8 : decode cX9_whyOfReserve 8 = .ok (.ireturn, 1) := by decide +kernel
theorem dX9_whyOfReserve_9 : decode cX9_whyOfReserve 9 = .ok (.aload_n 0, 1) := by decide +kernel
theorem dX9_whyOfReserve_10 : decode cX9_whyOfReserve 10 = .ok (.getfield 18, 3) := by decide +kernel
theorem dX9_whyOfReserve_13 : decode cX9_whyOfReserve 13 = .ok (.getfield 120, 3) := by decide +kernel
theorem dX9_whyOfReserve_16 : decode cX9_whyOfReserve 16 = .ok (.iconst 1, 1) := by decide +kernel
theorem dX9_whyOfReserve_17 : decode cX9_whyOfReserve 17 = .ok (.if_icmp .ne 5, 3) := by decide +kernel
theorem dX9_whyOfReserve_20 : decode cX9_whyOfReserve 20 = .ok (.iconst 0, 1) := by decide +kernel
theorem dX9_whyOfReserve_21 : decode cX9_whyOfReserve 21 = .ok (.ireturn, 1) := by decide +kernel
theorem dX9_whyOfReserve_22 : decode cX9_whyOfReserve 22 = .ok (.aload_n 0, 1) := by decide +kernel
theorem dX9_whyOfReserve_23 : decode cX9_whyOfReserve 23 = .ok (.getfield 18, 3) := by decide +kernel
theorem dX9_whyOfReserve_26 : decode cX9_whyOfReserve 26 = .ok (.getfield 120, 3) := by decide +kernel
theorem dX9_whyOfReserve_29 : decode cX9_whyOfReserve 29 = .ok (.ifCond .eq 5, 3) := by decide +kernel
theorem dX9_whyOfReserve_32 : decode cX9_whyOfReserve 32 = .ok (.iconst 2, 1) := by decide +kernel
theorem dX9_whyOfReserve_33 : decode cX9_whyOfReserve 33 = .ok (.ireturn, 1) := by decide +kernel
theorem dX9_whyOfReserve_34 : decode cX9_whyOfReserve 34 = .ok (.aload_n 0, 1) := by decide +kernel
theorem dX9_whyOfReserve_35 : decode cX9_whyOfReserve 35 = .ok (.getfield 46, 3) := by decide +kernel
theorem dX9_whyOfReserve_38 : decode cX9_whyOfReserve 38 = .ok (.aload_n 0, 1) := by decide +kernel
theorem dX9_whyOfReserve_39 : decode cX9_whyOfReserve 39 = .ok (.getfield 18, 3) := by decide +kernel
theorem dX9_whyOfReserve_42 : decode cX9_whyOfReserve 42 = .ok (.getfield 145, 3) := by decide +kernel
theorem dX9_whyOfReserve_45 : decode cX9_whyOfReserve 45 = .ok (.if_icmp .le 5, 3) := by decide +kernel
theorem dX9_whyOfReserve_48 : decode cX9_whyOfReserve 48 = .ok (.iconst 3, 1) := by decide +kernel
theorem dX9_whyOfReserve_49 : decode cX9_whyOfReserve 49 = .ok (.ireturn, 1) := by decide +kernel
theorem dX9_whyOfReserve_50 : decode cX9_whyOfReserve 50 = .ok (.aload_n 0, 1) := by decide +kernel
theorem dX9_whyOfReserve_51 : decode cX9_whyOfReserve 51 = .ok (.invokevirtual 154, 3) := by decide +kernel
theorem dX9_whyOfReserve_54 : decode cX9_whyOfReserve 54 = .ok (.aload_n 0, 1) := by decide +kernel
theorem dX9_whyOfReserve_55 : decode cX9_whyOfReserve 55 = .ok (.getfield 18, 3) := by decide +kernel
theorem dX9_whyOfReserve_58 : decode cX9_whyOfReserve 58 = .ok (.getfield 142, 3) := by decide +kernel
theorem dX9_whyOfReserve_61 : decode cX9_whyOfReserve 61 = .ok (.if_icmp .ge 5, 3) := by decide +kernel
theorem dX9_whyOfReserve_64 : decode cX9_whyOfReserve 64 = .ok (.iconst 4, 1) := by decide +kernel
theorem dX9_whyOfReserve_65 : decode cX9_whyOfReserve 65 = .ok (.ireturn, 1) := by decide +kernel
theorem dX9_whyOfReserve_66 : decode cX9_whyOfReserve 66 = .ok (.aload_n 0, 1) := by decide +kernel
theorem dX9_whyOfReserve_67 : decode cX9_whyOfReserve 67 = .ok (.invokevirtual 151, 3) := by decide +kernel
theorem dX9_whyOfReserve_70 : decode cX9_whyOfReserve 70 = .ok (.iconst (-1), 1) := by decide +kernel
theorem dX9_whyOfReserve_71 : decode cX9_whyOfReserve 71 = .ok (.if_icmp .eq 5, 3) := by decide +kernel
theorem dX9_whyOfReserve_74 : decode cX9_whyOfReserve 74 = .ok (.iconst 5, 1) := by decide +kernel
theorem dX9_whyOfReserve_75 : decode cX9_whyOfReserve 75 = .ok (.ireturn, 1) := by decide +kernel
theorem dX9_whyOfReserve_76 : decode cX9_whyOfReserve 76 = .ok (.aload_n 0, 1) := by decide +kernel
theorem dX9_whyOfReserve_77 : decode cX9_whyOfReserve 77 = .ok (.invokevirtual 148, 3) := by decide +kernel
theorem dX9_whyOfReserve_80 : decode cX9_whyOfReserve 80 = .ok (.ifCond .eq 8, 3) := by decide +kernel
theorem dX9_whyOfReserve_83 : decode cX9_whyOfReserve 83 = .ok (.bipush 7, 2) := by decide +kernel
theorem dX9_whyOfReserve_85 : decode cX9_whyOfReserve 85 = .ok (.goto 5, 3) := by decide +kernel
theorem dX9_whyOfReserve_88 : decode cX9_whyOfReserve 88 = .ok (.bipush 6, 2) := by decide +kernel
theorem dX9_whyOfReserve_90 : decode cX9_whyOfReserve 90 = .ok (.ireturn, 1) := by decide +kernel
theorem dX9_openLayer_0 : decode cX9_openLayer 0 = .ok (.aload_n 0, 1) := by decide +kernel
theorem dX9_openLayer_1 : decode cX9_openLayer 1 = .ok (.getfield 13, 3) := by decide +kernel
theorem dX9_openLayer_4 : decode cX9_openLayer 4 = .ok (.iload_n 1, 1) := by decide +kernel
theorem dX9_openLayer_5 : decode cX9_openLayer 5 = .ok (.aaload, 1) := by decide +kernel
theorem dX9_openLayer_6 : decode cX9_openLayer 6 = .ok (.astore_n 2, 1) := by decide +kernel
theorem dX9_openLayer_7 : decode cX9_openLayer 7 = .ok (.aload_n 2, 1) := by decide +kernel
theorem dX9_openLayer_8 : decode cX9_openLayer 8 = .ok (.getfield 127, 3) := by decide +kernel
theorem dX9_openLayer_11 : decode cX9_openLayer 11 = .ok (.ifCond .eq 28, 3) := by decide +kernel
theorem dX9_openLayer_14 : decode cX9_openLayer 14 = .ok (.aload_n 2, 1) := by decide +kernel
theorem dX9_openLayer_15 : decode cX9_openLayer 15 = .ok (.iconst 3, 1) := by decide +kernel
theorem dX9_openLayer_16 : decode cX9_openLayer 16 = .ok (.putfield 120, 3) := by decide +kernel
theorem dX9_openLayer_19 : decode cX9_openLayer 19 = .ok (.aload_n 0, 1) := by decide +kernel
theorem dX9_openLayer_20 : decode cX9_openLayer 20 = .ok (.getfield 42, 3) := by decide +kernel
theorem dX9_openLayer_23 : decode cX9_openLayer 23 = .ok (.aload_n 0, 1) := by decide +kernel
theorem dX9_openLayer_24 : decode cX9_openLayer 24 = .ok (.getfield 65, 3) := by decide +kernel
theorem dX9_openLayer_27 : decode cX9_openLayer 27 = .ok (.iconst 3, 1) := by decide +kernel
theorem dX9_openLayer_28 : decode cX9_openLayer 28 = .ok (.iload_n 1, 1) := by decide +kernel
theorem dX9_openLayer_29 : decode cX9_openLayer 29 = .ok (.aload_n 0, 1) := by decide +kernel
theorem dX9_openLayer_30 : decode cX9_openLayer 30 = .ok (.getfield 50, 3) := by decide +kernel
theorem dX9_openLayer_33 : decode cX9_openLayer 33 = .ok (.invokevirtual 157, 3) := by decide +kernel
theorem dX9_openLayer_36 : decode cX9_openLayer 36 = .ok (.goto 25, 3) := by decide +kernel
theorem dX9_openLayer_39 : decode cX9_openLayer 39 = .ok (.aload_n 2, 1) := by decide +kernel
theorem dX9_openLayer_40 : decode cX9_openLayer 40 = .ok (.iconst 1, 1) := by decide +kernel
theorem dX9_openLayer_41 : decode cX9_openLayer 41 = .ok (.putfield 120, 3) := by decide +kernel
theorem dX9_openLayer_44 : decode cX9_openLayer 44 = .ok (.aload_n 0, 1) := by decide +kernel
theorem dX9_openLayer_45 : decode cX9_openLayer 45 = .ok (.getfield 42, 3) := by decide +kernel
theorem dX9_openLayer_48 : decode cX9_openLayer 48 = .ok (.aload_n 0, 1) := by decide +kernel
theorem dX9_openLayer_49 : decode cX9_openLayer 49 = .ok (.getfield 65, 3) := by decide +kernel
theorem dX9_openLayer_52 : decode cX9_openLayer 52 = .ok (.iconst 0, 1) := by decide +kernel
theorem dX9_openLayer_53 : decode cX9_openLayer 53 = .ok (.iload_n 1, 1) := by decide +kernel
theorem dX9_openLayer_54 : decode cX9_openLayer 54 = .ok (.aload_n 0, 1) := by decide +kernel
theorem dX9_openLayer_55 : decode cX9_openLayer 55 = .ok (.getfield 50, 3) := by decide +kernel
theorem dX9_openLayer_58 : decode cX9_openLayer 58 = .ok (.invokevirtual 157, 3) := by decide +kernel
theorem dX9_openLayer_61 : decode cX9_openLayer 61 = .ok (.return_, 1) := by decide +kernel
theorem dX9_openTheReserve_0 : decode cX9_openTheReserve 0 = .ok (.aload_n 0, 1) := by decide +kernel
theorem dX9_openTheReserve_1 : decode cX9_openTheReserve 1 = .ok (.getfield 18, 3) := by decide +kernel
theorem dX9_openTheReserve_4 : decode cX9_openTheReserve 4 = .ok (.iconst 1, 1) := by decide +kernel
theorem dX9_openTheReserve_5 : decode cX9_openTheReserve 5 = .ok (.putfield 120, 3) := by decide +kernel
theorem dX9_openTheReserve_8 : decode cX9_openTheReserve 8 = .ok (.aload_n 0, 1) := by decide +kernel
theorem dX9_openTheReserve_9 : decode cX9_openTheReserve 9 = .ok (.getfield 42, 3) := by decide +kernel
theorem dX9_openTheReserve_12 : decode cX9_openTheReserve 12 = .ok (.aload_n 0, 1) := by decide +kernel
theorem dX9_openTheReserve_13 : decode cX9_openTheReserve 13 = .ok (.getfield 65, 3) := by decide +kernel
theorem dX9_openTheReserve_16 : decode cX9_openTheReserve 16 = .ok (.iconst 4, 1) := by decide +kernel
theorem dX9_openTheReserve_17 : decode cX9_openTheReserve 17 = .ok (.aload_n 0, 1) := by decide +kernel
theorem dX9_openTheReserve_18 : decode cX9_openTheReserve 18 = .ok (.getfield 77, 3) := by decide +kernel
theorem dX9_openTheReserve_21 : decode cX9_openTheReserve 21 = .ok (.iload_n 1, 1) := by decide +kernel
theorem dX9_openTheReserve_22 : decode cX9_openTheReserve 22 = .ok (.invokevirtual 157, 3) := by decide +kernel
theorem dX9_openTheReserve_25 : decode cX9_openTheReserve 25 = .ok (.return_, 1) := by decide +kernel
theorem dX9_cutAway_0 : decode cX9_cutAway 0 = .ok (.aload_n 0, 1) := by decide +kernel
theorem dX9_cutAway_1 : decode cX9_cutAway 1 = .ok (.iload_n 1, 1) := by decide +kernel
theorem dX9_cutAway_2 : decode cX9_cutAway 2 = .ok (.invokevirtual 116, 3) := by decide +kernel
theorem dX9_cutAway_5 : decode cX9_cutAway 5 = .ok (.astore_n 2, 1) := by decide +kernel
theorem dX9_cutAway_6 : decode cX9_cutAway 6 = .ok (.aload_n 2, 1) := by decide +kernel
theorem dX9_cutAway_7 : decode cX9_cutAway 7 = .ok (.iconst 4, 1) := by decide +kernel
theorem dX9_cutAway_8 : decode cX9_cutAway 8 = .ok (.putfield 120, 3) := by decide +kernel
theorem dX9_cutAway_11 : decode cX9_cutAway 11 = .ok (.aload_n 0, 1) := by decide +kernel
theorem dX9_cutAway_12 : decode cX9_cutAway 12 = .ok (.getfield 42, 3) := by decide +kernel
theorem dX9_cutAway_15 : decode cX9_cutAway 15 = .ok (.aload_n 0, 1) := by decide +kernel
theorem dX9_cutAway_16 : decode cX9_cutAway 16 = .ok (.getfield 65, 3) := by decide +kernel
theorem dX9_cutAway_19 : decode cX9_cutAway 19 = .ok (.iconst 5, 1) := by decide +kernel
theorem dX9_cutAway_20 : decode cX9_cutAway 20 = .ok (.iload_n 1, 1) := by decide +kernel
theorem dX9_cutAway_21 : decode cX9_cutAway 21 = .ok (.aload_n 2, 1) := by decide +kernel
theorem dX9_cutAway_22 : decode cX9_cutAway 22 = .ok (.invokevirtual 136, 3) := by decide +kernel
theorem dX9_cutAway_25 : decode cX9_cutAway 25 = .ok (.invokevirtual 157, 3) := by decide +kernel
theorem dX9_cutAway_28 : decode cX9_cutAway 28 = .ok (.return_, 1) := by decide +kernel
theorem dX9_passUntil_0 : decode cX9_passUntil 0 = .ok (.iconst 0, 1) := by decide +kernel
theorem dX9_passUntil_1 : decode cX9_passUntil 1 = .ok (.istore_n 3, 1) := by decide +kernel
theorem dX9_passUntil_2 : decode cX9_passUntil 2 = .ok (.aload_n 0, 1) := by decide +kernel
theorem dX9_passUntil_3 : decode cX9_passUntil 3 = .ok (.getfield 46, 3) := by decide +kernel
theorem dX9_passUntil_6 : decode cX9_passUntil 6 = .ok (.iload_n 1, 1) := by decide +kernel
theorem dX9_passUntil_7 : decode cX9_passUntil 7 = .ok (.if_icmp .le 18, 3) := by decide +kernel
theorem dX9_passUntil_10 : decode cX9_passUntil 10 = .ok (.iload_n 3, 1) := by decide +kernel
theorem dX9_passUntil_11 : decode cX9_passUntil 11 = .ok (.iload_n 2, 1) := by decide +kernel
theorem dX9_passUntil_12 : decode cX9_passUntil 12 = .ok (.if_icmp .ge 13, 3) := by decide +kernel
theorem dX9_passUntil_15 : decode cX9_passUntil 15 = .ok (.aload_n 0, 1) := by decide +kernel
theorem dX9_passUntil_16 : decode cX9_passUntil 16 = .ok (.invokevirtual 161, 3) := by decide +kernel
theorem dX9_passUntil_19 : decode cX9_passUntil 19 = .ok (.iinc 3 1, 3) := by decide +kernel
theorem dX9_passUntil_22 : decode cX9_passUntil 22 = .ok (.goto (-20), 3) := by decide +kernel
theorem dX9_passUntil_25 : decode cX9_passUntil 25 = .ok (.iload_n 3, 1) := by decide +kernel
theorem dX9_passUntil_26 : decode cX9_passUntil 26 = .ok (.ireturn, 1) := by decide +kernel
theorem dX9_passSecond_0 : decode cX9_passSecond 0 = .ok (.aload_n 0, 1) := by decide +kernel
theorem dX9_passSecond_1 : decode cX9_passSecond 1 = .ok (.invokevirtual 164, 3) := by decide +kernel
theorem dX9_passSecond_4 : decode cX9_passSecond 4 = .ok (.istore_n 1, 1) := by decide +kernel
theorem dX9_passSecond_5 : decode cX9_passSecond 5 = .ok (.aload_n 0, 1) := by decide +kernel
theorem dX9_passSecond_6 : decode cX9_passSecond 6 = .ok (.invokevirtual 148, 3) := by decide +kernel
theorem dX9_passSecond_9 : decode cX9_passSecond 9 = .ok (.ifCond .eq 7, 3) := by decide +kernel
theorem dX9_passSecond_12 : decode cX9_passSecond 12 = .ok (.aload_n 0, 1) := by decide +kernel
theorem dX9_passSecond_13 : decode cX9_passSecond 13 = .ok (.invokevirtual 167, 3) := by decide +kernel
theorem dX9_passSecond_16 : decode cX9_passSecond 16 = .ok (.aload_n 0, 1) := by decide +kernel
theorem dX9_passSecond_17 : decode cX9_passSecond 17 = .ok (.iload_n 1, 1) := by decide +kernel
theorem dX9_passSecond_18 : decode cX9_passSecond 18 = .ok (.invokevirtual 170, 3) := by decide +kernel
theorem dX9_passSecond_21 : decode cX9_passSecond 21 = .ok (.lstore_n 2, 1) := by decide +kernel
theorem dX9_passSecond_22 : decode cX9_passSecond 22 = .ok (.aload_n 0, 1) := by decide +kernel
theorem dX9_passSecond_23 : decode cX9_passSecond 23 = .ok (.getfield 53, 3) := by decide +kernel
theorem dX9_passSecond_26 : decode cX9_passSecond 26 = .ok (.ifCond .le 13, 3) := by decide +kernel
theorem dX9_passSecond_29 : decode cX9_passSecond 29 = .ok (.lload_n 2, 1) := by decide +kernel
theorem dX9_passSecond_30 : decode cX9_passSecond 30 = .ok (.aload_n 0, 1) := by decide +kernel
theorem dX9_passSecond_31 : decode cX9_passSecond 31 = .ok (.getfield 53, 3) := by decide +kernel
theorem dX9_passSecond_34 : decode cX9_passSecond 34 = .ok (.i2l, 1) := by decide +kernel
theorem dX9_passSecond_35 : decode cX9_passSecond 35 = .ok (.ldiv, 1) := by decide +kernel
theorem dX9_passSecond_36 : decode cX9_passSecond 36 = .ok (.goto 4, 3) := by decide +kernel
theorem dX9_passSecond_39 : decode cX9_passSecond 39 = .ok (.lconst 0, 1) := by decide +kernel
theorem dX9_passSecond_40 : decode cX9_passSecond 40 = .ok (.lstore 4, 2) := by decide +kernel
theorem dX9_passSecond_42 : decode cX9_passSecond 42 = .ok (.aload_n 0, 1) := by decide +kernel
theorem dX9_passSecond_43 : decode cX9_passSecond 43 = .ok (.getfield 50, 3) := by decide +kernel
theorem dX9_passSecond_46 : decode cX9_passSecond 46 = .ok (.bipush 10, 2) := by decide +kernel
theorem dX9_passSecond_48 : decode cX9_passSecond 48 = .ok (.iadd, 1) := by decide +kernel
theorem dX9_passSecond_49 : decode cX9_passSecond 49 = .ok (.i2l, 1) := by decide +kernel
theorem dX9_passSecond_50 : decode cX9_passSecond 50 = .ok (.lload 4, 2) := by decide +kernel
theorem dX9_passSecond_52 : decode cX9_passSecond 52 = .ok (.lsub, 1) := by decide +kernel
theorem dX9_passSecond_53 : decode cX9_passSecond 53 = .ok (.l2i, 1) := by decide +kernel
theorem dX9_passSecond_54 : decode cX9_passSecond 54 = .ok (.istore 6, 2) := by decide +kernel
theorem dX9_passSecond_56 : decode cX9_passSecond 56 = .ok (.aload_n 0, 1) := by decide +kernel
theorem dX9_passSecond_57 : decode cX9_passSecond 57 = .ok (.iload 6, 2) := by decide +kernel
theorem dX9_passSecond_59 : decode cX9_passSecond 59 = .ok (.aload_n 0, 1) := by decide +kernel
theorem dX9_passSecond_60 : decode cX9_passSecond 60 = .ok (.getfield 50, 3) := by decide +kernel
theorem dX9_passSecond_63 : decode cX9_passSecond 63 = .ok (.iconst 2, 1) := by decide +kernel
theorem dX9_passSecond_64 : decode cX9_passSecond 64 = .ok (.idiv, 1) := by decide +kernel
theorem dX9_passSecond_65 : decode cX9_passSecond 65 = .ok (.invokestatic 174, 3) := by decide +kernel
theorem dX9_passSecond_68 : decode cX9_passSecond 68 = .ok (.iconst 1, 1) := by decide +kernel
theorem dX9_passSecond_69 : decode cX9_passSecond 69 = .ok (.invokestatic 174, 3) := by decide +kernel
theorem dX9_passSecond_72 : decode cX9_passSecond 72 = .ok (.putfield 50, 3) := by decide +kernel
theorem dX9_passSecond_75 : decode cX9_passSecond 75 = .ok (.aload_n 0, 1) := by decide +kernel
theorem dX9_passSecond_76 : decode cX9_passSecond 76 = .ok (.getfield 50, 3) := by decide +kernel
theorem dX9_passSecond_79 : decode cX9_passSecond 79 = .ok (.i2l, 1) := by decide +kernel
theorem dX9_passSecond_80 : decode cX9_passSecond 80 = .ok (.aload_n 0, 1) := by decide +kernel
theorem dX9_passSecond_81 : decode cX9_passSecond 81 = .ok (.getfield 50, 3) := by decide +kernel
theorem dX9_passSecond_84 : decode cX9_passSecond 84 = .ok (.i2l, 1) := by decide +kernel
theorem dX9_passSecond_85 : decode cX9_passSecond 85 = .ok (.lmul, 1) := by decide +kernel
theorem dX9_passSecond_86 : decode cX9_passSecond 86 = .ok (.iload_n 1, 1) := by decide +kernel
theorem dX9_passSecond_87 : decode cX9_passSecond 87 = .ok (.i2l, 1) := by decide +kernel
theorem dX9_passSecond_88 : decode cX9_passSecond 88 = .ok (.lmul, 1) := by decide +kernel
theorem dX9_passSecond_89 : decode cX9_passSecond 89 = .ok (.ldc2_w 179, 3) := by decide +kernel
theorem dX9_passSecond_92 : decode cX9_passSecond 92 = .ok (.ldiv, 1) := by decide +kernel
theorem dX9_passSecond_93 : decode cX9_passSecond 93 = .ok (.l2i, 1) := by decide +kernel
theorem dX9_passSecond_94 : decode cX9_passSecond 94 = .ok (.istore 7, 2) := by decide +kernel
theorem dX9_passSecond_96 : decode cX9_passSecond 96 = .ok (.aload_n 0, 1) := by decide +kernel
theorem dX9_passSecond_97 : decode cX9_passSecond 97 = .ok (.dup, 1) := by decide +kernel
theorem dX9_passSecond_98 : decode cX9_passSecond 98 = .ok (.getfield 74, 3) := by decide +kernel
theorem dX9_passSecond_101 : decode cX9_passSecond 101 = .ok (.iload 7, 2) := by decide +kernel
theorem dX9_passSecond_103 : decode cX9_passSecond 103 = .ok (.iadd, 1) := by decide +kernel
theorem dX9_passSecond_104 : decode cX9_passSecond 104 = .ok (.putfield 74, 3) := by decide +kernel
theorem dX9_passSecond_107 : decode cX9_passSecond 107 = .ok (.aload_n 0, 1) := by decide +kernel
theorem dX9_passSecond_108 : decode cX9_passSecond 108 = .ok (.aload_n 0, 1) := by decide +kernel
theorem dX9_passSecond_109 : decode cX9_passSecond 109 = .ok (.getfield 59, 3) := by decide +kernel
theorem dX9_passSecond_112 : decode cX9_passSecond 112 = .ok (.iload 7, 2) := by decide +kernel
theorem dX9_passSecond_114 : decode cX9_passSecond 114 = .ok (.iadd, 1) := by decide +kernel
theorem dX9_passSecond_115 : decode cX9_passSecond 115 = .ok (.aload_n 0, 1) := by decide +kernel
theorem dX9_passSecond_116 : decode cX9_passSecond 116 = .ok (.getfield 68, 3) := by decide +kernel
theorem dX9_passSecond_119 : decode cX9_passSecond 119 = .ok (.isub, 1) := by decide +kernel
theorem dX9_passSecond_120 : decode cX9_passSecond 120 = .ok (.iconst 0, 1) := by decide +kernel
theorem dX9_passSecond_121 : decode cX9_passSecond 121 = .ok (.invokestatic 174, 3) := by decide +kernel
theorem dX9_passSecond_124 : decode cX9_passSecond 124 = .ok (.sipush 999, 3) := by decide +kernel
theorem dX9_passSecond_127 : decode cX9_passSecond 127 = .ok (.invokestatic 181, 3) := by decide +kernel
theorem dX9_passSecond_130 : decode cX9_passSecond 130 = .ok (.putfield 59, 3) := by decide +kernel
theorem dX9_passSecond_133 : decode cX9_passSecond 133 = .ok (.aload_n 0, 1) := by decide +kernel
theorem dX9_passSecond_134 : decode cX9_passSecond 134 = .ok (.invokevirtual 184, 3) := by decide +kernel
theorem dX9_passSecond_137 : decode cX9_passSecond 137 = .ok (.ifCond .le 29, 3) := by decide +kernel
theorem dX9_passSecond_140 : decode cX9_passSecond 140 = .ok (.aload_n 0, 1) := by decide +kernel
theorem dX9_passSecond_141 : decode cX9_passSecond 141 = .ok (.dup, 1) := by decide +kernel
theorem dX9_passSecond_142 : decode cX9_passSecond 142 = .ok (.getfield 56, 3) := by decide +kernel
theorem dX9_passSecond_145 : decode cX9_passSecond 145 = .ok (.aload_n 0, 1) := by decide +kernel
theorem dX9_passSecond_146 : decode cX9_passSecond 146 = .ok (.getfield 29, 3) := by decide +kernel
theorem dX9_passSecond_149 : decode cX9_passSecond 149 = .ok (.aload_n 0, 1) := by decide +kernel
theorem dX9_passSecond_150 : decode cX9_passSecond 150 = .ok (.getfield 46, 3) := by decide +kernel
theorem dX9_passSecond_153 : decode cX9_passSecond 153 = .ok (.iconst 0, 1) := by decide +kernel
theorem dX9_passSecond_154 : decode cX9_passSecond 154 = .ok (.invokevirtual 187, 3) := by decide +kernel
theorem dX9_passSecond_157 : decode cX9_passSecond 157 = .ok (.aload_n 0, 1) := by decide +kernel
theorem dX9_passSecond_158 : decode cX9_passSecond 158 = .ok (.getfield 62, 3) := by decide +kernel
theorem dX9_passSecond_161 : decode cX9_passSecond 161 = .ok (.iadd, 1) := by decide +kernel
theorem dX9_passSecond_162 : decode cX9_passSecond 162 = .ok (.iadd, 1) := by decide +kernel
theorem dX9_passSecond_163 : decode cX9_passSecond 163 = .ok (.putfield 56, 3) := by decide +kernel
theorem dX9_passSecond_166 : decode cX9_passSecond 166 = .ok (.aload_n 0, 1) := by decide +kernel
theorem dX9_passSecond_167 : decode cX9_passSecond 167 = .ok (.getfield 50, 3) := by decide +kernel
theorem dX9_passSecond_170 : decode cX9_passSecond 170 = .ok (.aload_n 0, 1) := by decide +kernel
theorem dX9_passSecond_171 : decode cX9_passSecond 171 = .ok (.getfield 46, 3) := by decide +kernel
theorem dX9_passSecond_174 : decode cX9_passSecond 174 = .ok (.invokestatic 181, 3) := by decide +kernel
theorem dX9_passSecond_177 : decode cX9_passSecond 177 = .ok (.istore 8, 2) := by decide +kernel
theorem dX9_passSecond_179 : decode cX9_passSecond 179 = .ok (.aload_n 0, 1) := by decide +kernel
theorem dX9_passSecond_180 : decode cX9_passSecond 180 = .ok (.dup, 1) := by decide +kernel
theorem dX9_passSecond_181 : decode cX9_passSecond 181 = .ok (.getfield 46, 3) := by decide +kernel
theorem dX9_passSecond_184 : decode cX9_passSecond 184 = .ok (.iload 8, 2) := by decide +kernel
theorem dX9_passSecond_186 : decode cX9_passSecond 186 = .ok (.isub, 1) := by decide +kernel
theorem dX9_passSecond_187 : decode cX9_passSecond 187 = .ok (.putfield 46, 3) := by decide +kernel
theorem dX9_passSecond_190 : decode cX9_passSecond 190 = .ok (.aload_n 0, 1) := by decide +kernel
theorem dX9_passSecond_191 : decode cX9_passSecond 191 = .ok (.dup, 1) := by decide +kernel
theorem dX9_passSecond_192 : decode cX9_passSecond 192 = .ok (.getfield 71, 3) := by decide +kernel
theorem dX9_passSecond_195 : decode cX9_passSecond 195 = .ok (.iload 8, 2) := by decide +kernel
theorem dX9_passSecond_197 : decode cX9_passSecond 197 = .ok (.iadd, 1) := by decide +kernel
theorem dX9_passSecond_198 : decode cX9_passSecond 198 = .ok (.putfield 71, 3) := by decide +kernel
theorem dX9_passSecond_201 : decode cX9_passSecond 201 = .ok (.aload_n 0, 1) := by decide +kernel
theorem dX9_passSecond_202 : decode cX9_passSecond 202 = .ok (.invokevirtual 190, 3) := by decide +kernel
theorem dX9_passSecond_205 : decode cX9_passSecond 205 = .ok (.ifCond .eq 21, 3) := by decide +kernel
theorem dX9_passSecond_208 : decode cX9_passSecond 208 = .ok (.aload_n 0, 1) := by decide +kernel
theorem dX9_passSecond_209 : decode cX9_passSecond 209 = .ok (.getfield 42, 3) := by decide +kernel
theorem dX9_passSecond_212 : decode cX9_passSecond 212 = .ok (.aload_n 0, 1) := by decide +kernel
theorem dX9_passSecond_213 : decode cX9_passSecond 213 = .ok (.getfield 65, 3) := by decide +kernel
theorem dX9_passSecond_216 : decode cX9_passSecond 216 = .ok (.bipush 6, 2) := by decide +kernel
theorem dX9_passSecond_218 : decode cX9_passSecond 218 = .ok (.iconst (-1), 1) := by decide +kernel
theorem dX9_passSecond_219 : decode cX9_passSecond 219 = .ok (.aload_n 0, 1) := by decide +kernel
theorem dX9_passSecond_220 : decode cX9_passSecond 220 = .ok (.invokevirtual 193, 3) := by decide +kernel
theorem dX9_passSecond_223 : decode cX9_passSecond 223 = .ok (.invokevirtual 157, 3) := by decide +kernel
theorem dX9_passSecond_226 : decode cX9_passSecond 226 = .ok (.aload_n 0, 1) := by decide +kernel
theorem dX9_passSecond_227 : decode cX9_passSecond 227 = .ok (.dup, 1) := by decide +kernel
theorem dX9_passSecond_228 : decode cX9_passSecond 228 = .ok (.getfield 65, 3) := by decide +kernel
theorem dX9_passSecond_231 : decode cX9_passSecond 231 = .ok (.iconst 1, 1) := by decide +kernel
theorem dX9_passSecond_232 : decode cX9_passSecond 232 = .ok (.iadd, 1) := by decide +kernel
theorem dX9_passSecond_233 : decode cX9_passSecond 233 = .ok (.putfield 65, 3) := by decide +kernel
theorem dX9_passSecond_236 : decode cX9_passSecond 236 = .ok (.return_, 1) := by decide +kernel
theorem dX9_openWhatMay_0 : decode cX9_openWhatMay 0 = .ok (.aload_n 0, 1) := by decide +kernel
theorem dX9_openWhatMay_1 : decode cX9_openWhatMay 1 = .ok (.invokevirtual 151, 3) := by decide +kernel
theorem dX9_openWhatMay_4 : decode cX9_openWhatMay 4 = .ok (.istore_n 1, 1) := by decide +kernel
theorem dX9_openWhatMay_5 : decode cX9_openWhatMay 5 = .ok (.aload_n 0, 1) := by decide +kernel
theorem dX9_openWhatMay_6 : decode cX9_openWhatMay 6 = .ok (.invokevirtual 154, 3) := by decide +kernel
theorem dX9_openWhatMay_9 : decode cX9_openWhatMay 9 = .ok (.istore_n 2, 1) := by decide +kernel
theorem dX9_openWhatMay_10 : decode cX9_openWhatMay 10 = .ok (.iload_n 1, 1) := by decide +kernel
theorem dX9_openWhatMay_11 : decode cX9_openWhatMay 11 = .ok (.iconst (-1), 1) := by decide +kernel
theorem dX9_openWhatMay_12 : decode cX9_openWhatMay 12 = .ok (.if_icmp .eq 11, 3) := by decide +kernel
theorem dX9_openWhatMay_15 : decode cX9_openWhatMay 15 = .ok (.aload_n 0, 1) := by decide +kernel
theorem dX9_openWhatMay_16 : decode cX9_openWhatMay 16 = .ok (.iload_n 1, 1) := by decide +kernel
theorem dX9_openWhatMay_17 : decode cX9_openWhatMay 17 = .ok (.invokevirtual 196, 3) := by decide +kernel
theorem dX9_openWhatMay_20 : decode cX9_openWhatMay 20 = .ok (.goto 40, 3) := by decide +kernel
theorem dX9_openWhatMay_23 : decode cX9_openWhatMay 23 = .ok (.aload_n 0, 1) := by decide +kernel
theorem dX9_openWhatMay_24 : decode cX9_openWhatMay 24 = .ok (.getfield 80, 3) := by decide +kernel
theorem dX9_openWhatMay_27 : decode cX9_openWhatMay 27 = .ok (.ifCond .eq 33, 3) := by decide +kernel
theorem dX9_openWhatMay_30 : decode cX9_openWhatMay 30 = .ok (.aload_n 0, 1) := by decide +kernel
theorem dX9_openWhatMay_31 : decode cX9_openWhatMay 31 = .ok (.getfield 18, 3) := by decide +kernel
theorem dX9_openWhatMay_34 : decode cX9_openWhatMay 34 = .ok (.aload_n 0, 1) := by decide +kernel
theorem dX9_openWhatMay_35 : decode cX9_openWhatMay 35 = .ok (.getfield 46, 3) := by decide +kernel
theorem dX9_openWhatMay_38 : decode cX9_openWhatMay 38 = .ok (.invokevirtual 139, 3) := by decide +kernel
theorem dX9_openWhatMay_41 : decode cX9_openWhatMay 41 = .ok (.ifCond .eq 19, 3) := by decide +kernel
theorem dX9_openWhatMay_44 : decode cX9_openWhatMay 44 = .ok (.iload_n 2, 1) := by decide +kernel
theorem dX9_openWhatMay_45 : decode cX9_openWhatMay 45 = .ok (.aload_n 0, 1) := by decide +kernel
theorem dX9_openWhatMay_46 : decode cX9_openWhatMay 46 = .ok (.getfield 18, 3) := by decide +kernel
theorem dX9_openWhatMay_49 : decode cX9_openWhatMay 49 = .ok (.getfield 142, 3) := by decide +kernel
theorem dX9_openWhatMay_52 : decode cX9_openWhatMay 52 = .ok (.if_icmp .lt 8, 3) := by decide +kernel
theorem dX9_openWhatMay_55 : decode cX9_openWhatMay 55 = .ok (.aload_n 0, 1) := by decide +kernel
theorem dX9_openWhatMay_56 : decode cX9_openWhatMay 56 = .ok (.iload_n 2, 1) := by decide +kernel
theorem dX9_openWhatMay_57 : decode cX9_openWhatMay 57 = .ok (.invokevirtual 200, 3) := by decide +kernel
theorem dX9_openWhatMay_60 : decode cX9_openWhatMay 60 = .ok (.return_, 1) := by decide +kernel
theorem dX9_tearAndBrake_0 : decode cX9_tearAndBrake 0 = .ok (.ldc2_w 203, 3) := by decide +kernel
theorem dX9_tearAndBrake_3 : decode cX9_tearAndBrake 3 = .ok (.iload_n 1, 1) := by decide +kernel
theorem dX9_tearAndBrake_4 : decode cX9_tearAndBrake 4 = .ok (.i2l, 1) := by decide +kernel
theorem dX9_tearAndBrake_5 : decode cX9_tearAndBrake 5 = .ok (.lmul, 1) := by decide +kernel
theorem dX9_tearAndBrake_6 : decode cX9_tearAndBrake 6 = .ok (.aload_n 0, 1) := by decide +kernel
theorem dX9_tearAndBrake_7 : decode cX9_tearAndBrake 7 = .ok (.getfield 50, 3) := by decide +kernel
theorem dX9_tearAndBrake_10 : decode cX9_tearAndBrake 10 = .ok (.i2l, 1) := by decide +kernel
theorem dX9_tearAndBrake_11 : decode cX9_tearAndBrake 11 = .ok (.lmul, 1) := by decide +kernel
theorem dX9_tearAndBrake_12 : decode cX9_tearAndBrake 12 = .ok (.aload_n 0, 1) := by decide +kernel
theorem dX9_tearAndBrake_13 : decode cX9_tearAndBrake 13 = .ok (.getfield 50, 3) := by decide +kernel
theorem dX9_tearAndBrake_16 : decode cX9_tearAndBrake 16 = .ok (.i2l, 1) := by decide +kernel
theorem dX9_tearAndBrake_17 : decode cX9_tearAndBrake 17 = .ok (.lmul, 1) := by decide +kernel
theorem dX9_tearAndBrake_18 : decode cX9_tearAndBrake 18 = .ok (.ldc2_w 205, 3) := by decide +kernel
theorem dX9_tearAndBrake_21 : decode cX9_tearAndBrake 21 = .ok (.ldiv, 1) := by decide +kernel
theorem dX9_tearAndBrake_22 : decode cX9_tearAndBrake 22 = .ok (.lstore_n 2, 1) := by decide +kernel
theorem dX9_tearAndBrake_23 : decode cX9_tearAndBrake 23 = .ok (.aload_n 0, 1) := by decide +kernel
theorem dX9_tearAndBrake_24 : decode cX9_tearAndBrake 24 = .ok (.invokevirtual 104, 3) := by decide +kernel
theorem dX9_tearAndBrake_27 : decode cX9_tearAndBrake 27 = .ok (.istore 4, 2) := by decide +kernel
theorem dX9_tearAndBrake_29 : decode cX9_tearAndBrake 29 = .ok (.iconst 0, 1) := by decide +kernel
theorem dX9_tearAndBrake_30 : decode cX9_tearAndBrake 30 = .ok (.istore 5, 2) := by decide +kernel
theorem dX9_tearAndBrake_32 : decode cX9_tearAndBrake 32 = .ok (.iload 5, 2) := by decide +kernel
theorem dX9_tearAndBrake_34 : decode cX9_tearAndBrake 34 = .ok (.iload 4, 2) := by decide +kernel
theorem dX9_tearAndBrake_36 : decode cX9_tearAndBrake 36 = .ok (.if_icmp .ge 88, 3) := by decide +kernel
theorem dX9_tearAndBrake_39 : decode cX9_tearAndBrake 39 = .ok (.aload_n 0, 1) := by decide +kernel
theorem dX9_tearAndBrake_40 : decode cX9_tearAndBrake 40 = .ok (.iload 5, 2) := by decide +kernel
theorem dX9_tearAndBrake_42 : decode cX9_tearAndBrake 42 = .ok (.invokevirtual 116, 3) := by decide +kernel
theorem dX9_tearAndBrake_45 : decode cX9_tearAndBrake 45 = .ok (.astore 6, 2) := by decide +kernel
theorem dX9_tearAndBrake_47 : decode cX9_tearAndBrake 47 = .ok (.aload 6, 2) := by decide +kernel
theorem dX9_tearAndBrake_49 : decode cX9_tearAndBrake 49 = .ok (.getfield 120, 3) := by decide +kernel
theorem dX9_tearAndBrake_52 : decode cX9_tearAndBrake 52 = .ok (.iconst 1, 1) := by decide +kernel
theorem dX9_tearAndBrake_53 : decode cX9_tearAndBrake 53 = .ok (.if_icmp .ne 65, 3) := by decide +kernel
theorem dX9_tearAndBrake_56 : decode cX9_tearAndBrake 56 = .ok (.aload 6, 2) := by decide +kernel
theorem dX9_tearAndBrake_58 : decode cX9_tearAndBrake 58 = .ok (.iload_n 1, 1) := by decide +kernel
theorem dX9_tearAndBrake_59 : decode cX9_tearAndBrake 59 = .ok (.aload_n 0, 1) := by decide +kernel
theorem dX9_tearAndBrake_60 : decode cX9_tearAndBrake 60 = .ok (.getfield 50, 3) := by decide +kernel
theorem dX9_tearAndBrake_63 : decode cX9_tearAndBrake 63 = .ok (.invokevirtual 207, 3) := by decide +kernel
theorem dX9_tearAndBrake_66 : decode cX9_tearAndBrake 66 = .ok (.lstore 7, 2) := by decide +kernel
theorem dX9_tearAndBrake_68 : decode cX9_tearAndBrake 68 = .ok (.aload 6, 2) := by decide +kernel
theorem dX9_tearAndBrake_70 : decode cX9_tearAndBrake 70 = .ok (.lload 7, 2) := by decide +kernel
theorem dX9_tearAndBrake_72 : decode cX9_tearAndBrake 72 = .ok (.aload_n 0, 1) := by decide +kernel
theorem dX9_tearAndBrake_73 : decode cX9_tearAndBrake 73 = .ok (.getfield 62, 3) := by decide +kernel
theorem dX9_tearAndBrake_76 : decode cX9_tearAndBrake 76 = .ok (.aload_n 0, 1) := by decide +kernel
theorem dX9_tearAndBrake_77 : decode cX9_tearAndBrake 77 = .ok (.getfield 59, 3) := by decide +kernel
theorem dX9_tearAndBrake_80 : decode cX9_tearAndBrake 80 = .ok (.invokevirtual 211, 3) := by decide +kernel
theorem dX9_tearAndBrake_83 : decode cX9_tearAndBrake 83 = .ok (.istore 9, 2) := by decide +kernel
theorem dX9_tearAndBrake_85 : decode cX9_tearAndBrake 85 = .ok (.iload 9, 2) := by decide +kernel
theorem dX9_tearAndBrake_87 : decode cX9_tearAndBrake 87 = .ok (.ifCond .le 13, 3) := by decide +kernel
theorem dX9_tearAndBrake_90 : decode cX9_tearAndBrake 90 = .ok (.aload_n 0, 1) := by decide +kernel
theorem dX9_tearAndBrake_91 : decode cX9_tearAndBrake 91 = .ok (.aload 6, 2) := by decide +kernel
theorem dX9_tearAndBrake_93 : decode cX9_tearAndBrake 93 = .ok (.iload 5, 2) := by decide +kernel
theorem dX9_tearAndBrake_95 : decode cX9_tearAndBrake 95 = .ok (.iload 9, 2) := by decide +kernel
theorem dX9_tearAndBrake_97 : decode cX9_tearAndBrake 97 = .ok (.invokevirtual 215, 3) := by decide +kernel
theorem dX9_tearAndBrake_100 : decode cX9_tearAndBrake 100 = .ok (.lload_n 2, 1) := by decide +kernel
theorem dX9_tearAndBrake_101 : decode cX9_tearAndBrake 101 = .ok (.aload 6, 2) := by decide +kernel
theorem dX9_tearAndBrake_103 : decode cX9_tearAndBrake 103 = .ok (.getfield 120, 3) := by decide +kernel
theorem dX9_tearAndBrake_106 : decode cX9_tearAndBrake 106 = .ok (.iconst 1, 1) := by decide +kernel
theorem dX9_tearAndBrake_107 : decode cX9_tearAndBrake 107 = .ok (.if_icmp .ne 8, 3) := by decide +kernel
theorem dX9_tearAndBrake_110 : decode cX9_tearAndBrake 110 = .ok (.lload 7, 2) := by decide +kernel
theorem dX9_tearAndBrake_112 : decode cX9_tearAndBrake 112 = .ok (.goto 4, 3) := by decide +kernel
theorem dX9_tearAndBrake_115 : decode cX9_tearAndBrake 115 = .ok (.lconst 0, 1) := by decide +kernel
theorem dX9_tearAndBrake_116 : decode cX9_tearAndBrake 116 = .ok (.ladd, 1) := by decide +kernel
theorem dX9_tearAndBrake_117 : decode cX9_tearAndBrake 117 = .ok (.lstore_n 2, 1) := by decide +kernel
theorem dX9_tearAndBrake_118 : decode cX9_tearAndBrake 118 = .ok (.iinc 5 1, 3) := by decide +kernel
theorem dX9_tearAndBrake_121 : decode cX9_tearAndBrake 121 = .ok (.goto (-89), 3) := by decide +kernel
theorem dX9_tearAndBrake_124 : decode cX9_tearAndBrake 124 = .ok (.lload_n 2, 1) := by decide +kernel
theorem dX9_tearAndBrake_125 : decode cX9_tearAndBrake 125 = .ok (.lreturn, 1) := by decide +kernel
theorem dX9_tear_0 : decode cX9_tear 0 = .ok (.aload_n 1, 1) := by decide +kernel
theorem dX9_tear_1 : decode cX9_tear 1 = .ok (.dup, 1) := by decide +kernel
theorem dX9_tear_2 : decode cX9_tear 2 = .ok (.getfield 133, 3) := by decide +kernel
theorem dX9_tear_5 : decode cX9_tear 5 = .ok (.iload_n 3, 1) := by decide +kernel
theorem dX9_tear_6 : decode cX9_tear 6 = .ok (.iadd, 1) := by decide +kernel
theorem dX9_tear_7 : decode cX9_tear 7 = .ok (.putfield 133, 3) := by decide +kernel
theorem dX9_tear_10 : decode cX9_tear 10 = .ok (.aload_n 0, 1) := by decide +kernel
theorem dX9_tear_11 : decode cX9_tear 11 = .ok (.getfield 42, 3) := by decide +kernel
theorem dX9_tear_14 : decode cX9_tear 14 = .ok (.aload_n 0, 1) := by decide +kernel
theorem dX9_tear_15 : decode cX9_tear 15 = .ok (.getfield 65, 3) := by decide +kernel
theorem dX9_tear_18 : decode cX9_tear 18 = .ok (.iconst 1, 1) := by decide +kernel
theorem dX9_tear_19 : decode cX9_tear 19 = .ok (.iload_n 2, 1) := by decide +kernel
theorem dX9_tear_20 : decode cX9_tear 20 = .ok (.iload_n 3, 1) := by decide +kernel
theorem dX9_tear_21 : decode cX9_tear 21 = .ok (.invokevirtual 157, 3) := by decide +kernel
theorem dX9_tear_24 : decode cX9_tear 24 = .ok (.aload_n 1, 1) := by decide +kernel
theorem dX9_tear_25 : decode cX9_tear 25 = .ok (.invokevirtual 136, 3) := by decide +kernel
theorem dX9_tear_28 : decode cX9_tear 28 = .ok (.ifCond .ne 25, 3) := by decide +kernel
theorem dX9_tear_31 : decode cX9_tear 31 = .ok (.aload_n 1, 1) := by decide +kernel
theorem dX9_tear_32 : decode cX9_tear 32 = .ok (.iconst 2, 1) := by decide +kernel
theorem dX9_tear_33 : decode cX9_tear 33 = .ok (.putfield 120, 3) := by decide +kernel
theorem dX9_tear_36 : decode cX9_tear 36 = .ok (.aload_n 0, 1) := by decide +kernel
theorem dX9_tear_37 : decode cX9_tear 37 = .ok (.getfield 42, 3) := by decide +kernel
theorem dX9_tear_40 : decode cX9_tear 40 = .ok (.aload_n 0, 1) := by decide +kernel
theorem dX9_tear_41 : decode cX9_tear 41 = .ok (.getfield 65, 3) := by decide +kernel
theorem dX9_tear_44 : decode cX9_tear 44 = .ok (.iconst 2, 1) := by decide +kernel
theorem dX9_tear_45 : decode cX9_tear 45 = .ok (.iload_n 2, 1) := by decide +kernel
theorem dX9_tear_46 : decode cX9_tear 46 = .ok (.aload_n 1, 1) := by decide +kernel
theorem dX9_tear_47 : decode cX9_tear 47 = .ok (.getfield 219, 3) := by decide +kernel
theorem dX9_tear_50 : decode cX9_tear 50 = .ok (.invokevirtual 157, 3) := by decide +kernel
theorem dX9_tear_53 : decode cX9_tear 53 = .ok (.return_, 1) := by decide +kernel
theorem dX9_landingResult_0 : decode cX9_landingResult 0 = .ok (.aload_n 0, 1) := by decide +kernel
theorem dX9_landingResult_1 : decode cX9_landingResult 1 = .ok (.invokevirtual 190, 3) := by decide +kernel
theorem dX9_landingResult_4 : decode cX9_landingResult 4 = .ok (.ifCond .ne 5, 3) := by decide +kernel
theorem dX9_landingResult_7 : decode cX9_landingResult 7 = .ok (.iconst 0, 1) := by decide +kernel
theorem dX9_landingResult_8 : decode cX9_landingResult 8 = .ok (.ireturn, 1) := by decide +kernel
theorem dX9_landingResult_9 : decode cX9_landingResult 9 = .ok (.aload_n 0, 1) := by decide +kernel
theorem dX9_landingResult_10 : decode cX9_landingResult 10 = .ok (.getfield 35, 3) := by decide +kernel
theorem dX9_landingResult_13 : decode cX9_landingResult 13 = .ok (.aload_n 0, 1) := by decide +kernel
theorem dX9_landingResult_14 : decode cX9_landingResult 14 = .ok (.getfield 56, 3) := by decide +kernel
theorem dX9_landingResult_17 : decode cX9_landingResult 17 = .ok (.invokevirtual 222, 3) := by decide +kernel
theorem dX9_landingResult_20 : decode cX9_landingResult 20 = .ok (.istore_n 1, 1) := by decide +kernel
theorem dX9_landingResult_21 : decode cX9_landingResult 21 = .ok (.iload_n 1, 1) := by decide +kernel
theorem dX9_landingResult_22 : decode cX9_landingResult 22 = .ok (.iconst (-1), 1) := by decide +kernel
theorem dX9_landingResult_23 : decode cX9_landingResult 23 = .ok (.if_icmp .ne 5, 3) := by decide +kernel
theorem dX9_landingResult_26 : decode cX9_landingResult 26 = .ok (.iconst 3, 1) := by decide +kernel
theorem dX9_landingResult_27 : decode cX9_landingResult 27 = .ok (.ireturn, 1) := by decide +kernel
theorem dX9_landingResult_28 : decode cX9_landingResult 28 = .ok (.aload_n 0, 1) := by decide +kernel
theorem dX9_landingResult_29 : decode cX9_landingResult 29 = .ok (.getfield 50, 3) := by decide +kernel
theorem dX9_landingResult_32 : decode cX9_landingResult 32 = .ok (.aload_n 0, 1) := by decide +kernel
theorem dX9_landingResult_33 : decode cX9_landingResult 33 = .ok (.getfield 35, 3) := by decide +kernel
theorem dX9_landingResult_36 : decode cX9_landingResult 36 = .ok (.getfield 226, 3) := by decide +kernel
theorem dX9_landingResult_39 : decode cX9_landingResult 39 = .ok (.iload_n 1, 1) := by decide +kernel
theorem dX9_landingResult_40 : decode cX9_landingResult 40 = .ok (.iaload, 1) := by decide +kernel
theorem dX9_landingResult_41 : decode cX9_landingResult 41 = .ok (.if_icmp .gt 7, 3) := by decide +kernel
theorem dX9_landingResult_44 : decode cX9_landingResult 44 = .ok (.iconst 1, 1) := by decide +kernel
theorem dX9_landingResult_45 : decode cX9_landingResult 45 = .ok (.goto 4, 3) := by decide +kernel
theorem dX9_landingResult_48 : decode cX9_landingResult 48 = .ok (.iconst 2, 1) := by decide +kernel
theorem dX9_landingResult_49 : decode cX9_landingResult 49 = .ok (.ireturn, 1) := by decide +kernel
theorem dX10_init_0 : decode cX10_init 0 = .ok (.aload_n 0, 1) := by decide +kernel
theorem dX10_init_1 : decode cX10_init 1 = .ok (.invokespecial 1, 3) := by decide +kernel
theorem dX10_init_4 : decode cX10_init 4 = .ok (.aload_n 0, 1) := by decide +kernel
theorem dX10_init_5 : decode cX10_init 5 = .ok (.new 7, 3) := by decide +kernel
theorem dX10_init_8 : decode cX10_init 8 = .ok (.dup, 1) := by decide +kernel
theorem dX10_init_9 : decode cX10_init 9 = .ok (.invokespecial 9, 3) := by decide +kernel
theorem dX10_init_12 : decode cX10_init 12 = .ok (.putfield 10, 3) := by decide +kernel
theorem dX10_init_15 : decode cX10_init 15 = .ok (.aload_n 0, 1) := by decide +kernel
theorem dX10_init_16 : decode cX10_init 16 = .ok (.new 16, 3) := by decide +kernel
theorem dX10_init_19 : decode cX10_init 19 = .ok (.dup, 1) := by decide +kernel
theorem dX10_init_20 : decode cX10_init 20 = .ok (.invokespecial 18, 3) := by decide +kernel
theorem dX10_init_23 : decode cX10_init 23 = .ok (.putfield 19, 3) := by decide +kernel
theorem dX10_init_26 : decode cX10_init 26 = .ok (.aload_n 0, 1) := by decide +kernel
theorem dX10_init_27 : decode cX10_init 27 = .ok (.new 23, 3) := by decide +kernel
theorem dX10_init_30 : decode cX10_init 30 = .ok (.dup, 1) := by decide +kernel
theorem dX10_init_31 : decode cX10_init 31 = .ok (.invokespecial 25, 3) := by decide +kernel
theorem dX10_init_34 : decode cX10_init 34 = .ok (.putfield 26, 3) := by decide +kernel
theorem dX10_init_37 : decode cX10_init 37 = .ok (.aload_n 0, 1) := by decide +kernel
theorem dX10_init_38 : decode cX10_init 38 = .ok (.new 30, 3) := by decide +kernel
theorem dX10_init_41 : decode cX10_init 41 = .ok (.dup, 1) := by decide +kernel
theorem dX10_init_42 : decode cX10_init 42 = .ok (.invokespecial 32, 3) := by decide +kernel
theorem dX10_init_45 : decode cX10_init 45 = .ok (.putfield 33, 3) := by decide +kernel
theorem dX10_init_48 : decode cX10_init 48 = .ok (.aload_n 0, 1) := by decide +kernel
theorem dX10_init_49 : decode cX10_init 49 = .ok (.new 30, 3) := by decide +kernel
theorem dX10_init_52 : decode cX10_init 52 = .ok (.dup, 1) := by decide +kernel
theorem dX10_init_53 : decode cX10_init 53 = .ok (.invokespecial 32, 3) := by decide +kernel
theorem dX10_init_56 : decode cX10_init 56 = .ok (.putfield 37, 3) := by decide +kernel
theorem dX10_init_59 : decode cX10_init 59 = .ok (.aload_n 0, 1) := by decide +kernel
theorem dX10_init_60 : decode cX10_init 60 = .ok (.new 40, 3) := by decide +kernel
theorem dX10_init_63 : decode cX10_init 63 = .ok (.dup, 1) := by decide +kernel
theorem dX10_init_64 : decode cX10_init 64 = .ok (.invokespecial 42, 3) := by decide +kernel
theorem dX10_init_67 : decode cX10_init 67 = .ok (.putfield 43, 3) := by decide +kernel
theorem dX10_init_70 : decode cX10_init 70 = .ok (.aload_n 0, 1) := by decide +kernel
theorem dX10_init_71 : decode cX10_init 71 = .ok (.iconst 2, 1) := by decide +kernel
theorem dX10_init_72 : decode cX10_init 72 = .ok (.anewarray 30, 3) := by decide +kernel
theorem dX10_init_75 : decode cX10_init 75 = .ok (.putfield 47, 3) := by decide +kernel
theorem dX10_init_78 : decode cX10_init 78 = .ok (.aload_n 0, 1) := by decide +kernel
theorem dX10_init_79 : decode cX10_init 79 = .ok (.iconst 2, 1) := by decide +kernel
theorem dX10_init_80 : decode cX10_init 80 = .ok (.newarray .boolean, 2) := by decide +kernel
theorem dX10_init_82 : decode cX10_init 82 = .ok (.putfield 51, 3) := by decide +kernel
theorem dX10_init_85 : decode cX10_init 85 = .ok (.aload_n 0, 1) := by decide +kernel
theorem dX10_init_86 : decode cX10_init 86 = .ok (.bipush 10, 2) := by decide +kernel
theorem dX10_init_88 : decode cX10_init 88 = .ok (.newarray .int, 2) := by decide +kernel
theorem dX10_init_90 : decode cX10_init 90 = .ok (.putfield 55, 3) := by decide +kernel
theorem dX10_init_93 : decode cX10_init 93 = .ok (.aload_n 0, 1) := by decide +kernel
theorem dX10_init_94 : decode cX10_init 94 = .ok (.new 59, 3) := by decide +kernel
theorem dX10_init_97 : decode cX10_init 97 = .ok (.dup, 1) := by decide +kernel
theorem dX10_init_98 : decode cX10_init 98 = .ok (.invokespecial 61, 3) := by decide +kernel
theorem dX10_init_101 : decode cX10_init 101 = .ok (.putfield 62, 3) := by decide +kernel
theorem dX10_init_104 : decode cX10_init 104 = .ok (.iconst 0, 1) := by decide +kernel
theorem dX10_init_105 : decode cX10_init 105 = .ok (.istore_n 1, 1) := by decide +kernel
theorem dX10_init_106 : decode cX10_init 106 = .ok (.iload_n 1, 1) := by decide +kernel
theorem dX10_init_107 : decode cX10_init 107 = .ok (.iconst 2, 1) := by decide +kernel
theorem dX10_init_108 : decode cX10_init 108 = .ok (.if_icmp .ge 22, 3) := by decide +kernel
theorem dX10_init_111 : decode cX10_init 111 = .ok (.aload_n 0, 1) := by decide +kernel
theorem dX10_init_112 : decode cX10_init 112 = .ok (.getfield 47, 3) := by decide +kernel
theorem dX10_init_115 : decode cX10_init 115 = .ok (.iload_n 1, 1) := by decide +kernel
theorem dX10_init_116 : decode cX10_init 116 = .ok (.new 30, 3) := by decide +kernel
theorem dX10_init_119 : decode cX10_init 119 = .ok (.dup, 1) := by decide +kernel
theorem dX10_init_120 : decode cX10_init 120 = .ok (.invokespecial 32, 3) := by decide +kernel
theorem dX10_init_123 : decode cX10_init 123 = .ok (.aastore, 1) := by decide +kernel
theorem dX10_init_124 : decode cX10_init 124 = .ok (.iinc 1 1, 3) := by decide +kernel
theorem dX10_init_127 : decode cX10_init 127 = .ok (.goto (-21), 3) := by decide +kernel
theorem dX10_init_130 : decode cX10_init 130 = .ok (.aload_n 0, 1) := by decide +kernel
theorem dX10_init_131 : decode cX10_init 131 = .ok (.getfield 33, 3) := by decide +kernel
theorem dX10_init_134 : decode cX10_init 134 = .ok (.sipush 3000, 3) := by decide +kernel
theorem dX10_init_137 : decode cX10_init 137 = .ok (.bipush 100, 2) := by decide +kernel
theorem dX10_init_139 : decode cX10_init 139 = .ok (.bipush 10, 2) := by decide +kernel
theorem dX10_init_141 : decode cX10_init 141 = .ok (.invokevirtual 66, 3) := by decide +kernel
theorem dX10_init_144 : decode cX10_init 144 = .ok (.return_, 1) := by decide +kernel
theorem dX10_append_0 : decode cX10_append 0 = .ok (.iload_n 1, 1) := by decide +kernel
theorem dX10_append_1 : decode cX10_append 1 = .ok (.invokestatic 70, 3) := by decide +kernel
theorem dX10_append_4 : decode cX10_append 4 = .ok (.iload_n 2, 1) := by decide +kernel
theorem dX10_append_5 : decode cX10_append 5 = .ok (.invokestatic 70, 3) := by decide +kernel
theorem dX10_append_8 : decode cX10_append 8 = .ok (.iadd, 1) := by decide +kernel
theorem dX10_append_9 : decode cX10_append 9 = .ok (.iload_n 3, 1) := by decide +kernel
theorem dX10_append_10 : decode cX10_append 10 = .ok (.invokestatic 70, 3) := by decide +kernel
theorem dX10_append_13 : decode cX10_append 13 = .ok (.iadd, 1) := by decide +kernel
theorem dX10_append_14 : decode cX10_append 14 = .ok (.iload 4, 2) := by decide +kernel
theorem dX10_append_16 : decode cX10_append 16 = .ok (.invokestatic 70, 3) := by decide +kernel
theorem dX10_append_19 : decode cX10_append 19 = .ok (.iadd, 1) := by decide +kernel
theorem dX10_append_20 : decode cX10_append 20 = .ok (.iload 5, 2) := by decide +kernel
theorem dX10_append_22 : decode cX10_append 22 = .ok (.invokestatic 70, 3) := by decide +kernel
theorem dX10_append_25 : decode cX10_append 25 = .ok (.iadd, 1) := by decide +kernel
theorem dX10_append_26 : decode cX10_append 26 = .ok (.istore 6, 2) := by decide +kernel
theorem dX10_append_28 : decode cX10_append 28 = .ok (.iload 6, 2) := by decide +kernel
theorem dX10_append_30 : decode cX10_append 30 = .ok (.aload_n 0, 1) := by decide +kernel
theorem dX10_append_31 : decode cX10_append 31 = .ok (.getfield 10, 3) := by decide +kernel
theorem dX10_append_34 : decode cX10_append 34 = .ok (.invokevirtual 74, 3) := by decide +kernel
theorem dX10_append_37 : decode cX10_append 37 = .ok (.if_icmp .le 13, 3) := by decide +kernel
theorem dX10_append_40 : decode cX10_append 40 = .ok (.new 78, 3) := by decide +kernel
theorem dX10_append_43 : decode cX10_append 43 = .ok (.dup, 1) := by decide +kernel
theorem dX10_append_44 : decode cX10_append 44 = .ok (.ldc 80, 2) := by decide +kernel
theorem dX10_append_46 : decode cX10_append 46 = .ok (.invokespecial 82, 3) := by decide +kernel
theorem dX10_append_49 : decode cX10_append 49 = .ok (.athrow, 1) := by decide +kernel
theorem dX10_append_50 : decode cX10_append 50 = .ok (.aload_n 0, 1) := by decide +kernel
theorem dX10_append_51 : decode cX10_append 51 = .ok (.getfield 10, 3) := by decide +kernel
theorem dX10_append_54 : decode cX10_append 54 = .ok (.iload_n 1, 1) := by decide +kernel
theorem dX10_append_55 : decode cX10_append 55 = .ok (.invokevirtual 85, 3) := by decide +kernel
theorem dX10_append_58 : decode cX10_append 58 = .ok (.aload_n 0, 1) := by decide +kernel
theorem dX10_append_59 : decode cX10_append 59 = .ok (.getfield 10, 3) := by decide +kernel
theorem dX10_append_62 : decode cX10_append 62 = .ok (.iload_n 2, 1) := by decide +kernel
theorem dX10_append_63 : decode cX10_append 63 = .ok (.invokevirtual 85, 3) := by decide +kernel
theorem dX10_append_66 : decode cX10_append 66 = .ok (.aload_n 0, 1) := by decide +kernel
theorem dX10_append_67 : decode cX10_append 67 = .ok (.getfield 10, 3) := by decide +kernel
theorem dX10_append_70 : decode cX10_append 70 = .ok (.iload_n 3, 1) := by decide +kernel
theorem dX10_append_71 : decode cX10_append 71 = .ok (.invokevirtual 85, 3) := by decide +kernel
theorem dX10_append_74 : decode cX10_append 74 = .ok (.aload_n 0, 1) := by decide +kernel
theorem dX10_append_75 : decode cX10_append 75 = .ok (.getfield 10, 3) := by decide +kernel
theorem dX10_append_78 : decode cX10_append 78 = .ok (.iload 4, 2) := by decide +kernel
theorem dX10_append_80 : decode cX10_append 80 = .ok (.invokevirtual 85, 3) := by decide +kernel
theorem dX10_append_83 : decode cX10_append 83 = .ok (.aload_n 0, 1) := by decide +kernel
theorem dX10_append_84 : decode cX10_append 84 = .ok (.getfield 10, 3) := by decide +kernel
theorem dX10_append_87 : decode cX10_append 87 = .ok (.iload 5, 2) := by decide +kernel
theorem dX10_append_89 : decode cX10_append 89 = .ok (.invokevirtual 85, 3) := by decide +kernel
theorem dX10_append_92 : decode cX10_append 92 = .ok (.aload_n 0, 1) := by decide +kernel
theorem dX10_append_93 : decode cX10_append 93 = .ok (.getfield 10, 3) := by decide +kernel
theorem dX10_append_96 : decode cX10_append 96 = .ok (.getfield 89, 3) := by decide +kernel
theorem dX10_append_99 : decode cX10_append 99 = .ok (.ireturn, 1) := by decide +kernel
theorem dX10_load_0 : decode cX10_load 0 = .ok (.aload_n 0, 1) := by decide +kernel
theorem dX10_load_1 : decode cX10_load 1 = .ok (.getfield 19, 3) := by decide +kernel
theorem dX10_load_4 : decode cX10_load 4 = .ok (.aload_n 0, 1) := by decide +kernel
theorem dX10_load_5 : decode cX10_load 5 = .ok (.getfield 10, 3) := by decide +kernel
theorem dX10_load_8 : decode cX10_load 8 = .ok (.invokevirtual 93, 3) := by decide +kernel
theorem dX10_load_11 : decode cX10_load 11 = .ok (.istore_n 1, 1) := by decide +kernel
theorem dX10_load_12 : decode cX10_load 12 = .ok (.aload_n 0, 1) := by decide +kernel
theorem dX10_load_13 : decode cX10_load 13 = .ok (.getfield 10, 3) := by decide +kernel
theorem dX10_load_16 : decode cX10_load 16 = .ok (.invokevirtual 97, 3) := by decide +kernel
theorem dX10_load_19 : decode cX10_load 19 = .ok (.iload_n 1, 1) := by decide +kernel
theorem dX10_load_20 : decode cX10_load 20 = .ok (.ifCond .ne 5, 3) := by decide +kernel
theorem dX10_load_23 : decode cX10_load 23 = .ok (.iconst (-1), 1) := by decide +kernel
theorem dX10_load_24 : decode cX10_load 24 = .ok (.ireturn, 1) := by decide +kernel
theorem dX10_load_25 : decode cX10_load 25 = .ok (.aload_n 0, 1) := by decide +kernel
theorem dX10_load_26 : decode cX10_load 26 = .ok (.getfield 33, 3) := by decide +kernel
theorem dX10_load_29 : decode cX10_load 29 = .ok (.aload_n 0, 1) := by decide +kernel
theorem dX10_load_30 : decode cX10_load 30 = .ok (.getfield 19, 3) := by decide +kernel
theorem dX10_load_33 : decode cX10_load 33 = .ok (.getfield 100, 3) := by decide +kernel
theorem dX10_load_36 : decode cX10_load 36 = .ok (.invokevirtual 103, 3) := by decide +kernel
theorem dX10_load_39 : decode cX10_load 39 = .ok (.aload_n 0, 1) := by decide +kernel
theorem dX10_load_40 : decode cX10_load 40 = .ok (.getfield 43, 3) := by decide +kernel
theorem dX10_load_43 : decode cX10_load 43 = .ok (.invokevirtual 107, 3) := by decide +kernel
theorem dX10_load_46 : decode cX10_load 46 = .ok (.aload_n 0, 1) := by decide +kernel
theorem dX10_load_47 : decode cX10_load 47 = .ok (.getfield 33, 3) := by decide +kernel
theorem dX10_load_50 : decode cX10_load 50 = .ok (.invokevirtual 110, 3) := by decide +kernel
theorem dX10_load_53 : decode cX10_load 53 = .ok (.ireturn, 1) := by decide +kernel
theorem dX10_play_0 : decode cX10_play 0 = .ok (.aload_n 0, 1) := by decide +kernel
theorem dX10_play_1 : decode cX10_play 1 = .ok (.getfield 26, 3) := by decide +kernel
theorem dX10_play_4 : decode cX10_play 4 = .ok (.aload_n 0, 1) := by decide +kernel
theorem dX10_play_5 : decode cX10_play 5 = .ok (.getfield 10, 3) := by decide +kernel
theorem dX10_play_8 : decode cX10_play 8 = .ok (.aload_n 0, 1) := by decide +kernel
theorem dX10_play_9 : decode cX10_play 9 = .ok (.getfield 33, 3) := by decide +kernel
theorem dX10_play_12 : decode cX10_play 12 = .ok (.getfield 113, 3) := by decide +kernel
theorem dX10_play_15 : decode cX10_play 15 = .ok (.aload_n 0, 1) := by decide +kernel
theorem dX10_play_16 : decode cX10_play 16 = .ok (.getfield 33, 3) := by decide +kernel
theorem dX10_play_19 : decode cX10_play 19 = .ok (.invokevirtual 110, 3) := by decide +kernel
theorem dX10_play_22 : decode cX10_play 22 = .ok (.invokevirtual 116, 3) := by decide +kernel
theorem dX10_play_25 : decode cX10_play 25 = .ok (.istore_n 1, 1) := by decide +kernel
theorem dX10_play_26 : decode cX10_play 26 = .ok (.aload_n 0, 1) := by decide +kernel
theorem dX10_play_27 : decode cX10_play 27 = .ok (.getfield 10, 3) := by decide +kernel
theorem dX10_play_30 : decode cX10_play 30 = .ok (.invokevirtual 97, 3) := by decide +kernel
theorem dX10_play_33 : decode cX10_play 33 = .ok (.iload_n 1, 1) := by decide +kernel
theorem dX10_play_34 : decode cX10_play 34 = .ok (.ifCond .ne 5, 3) := by decide +kernel
theorem dX10_play_37 : decode cX10_play 37 = .ok (.iconst (-1), 1) := by decide +kernel
theorem dX10_play_38 : decode cX10_play 38 = .ok (.ireturn, 1) := by decide +kernel
theorem dX10_play_39 : decode cX10_play 39 = .ok (.iconst 0, 1) := by decide +kernel
theorem dX10_play_40 : decode cX10_play 40 = .ok (.istore_n 2, 1) := by decide +kernel
theorem dX10_play_41 : decode cX10_play 41 = .ok (.iconst 0, 1) := by decide +kernel
theorem dX10_play_42 : decode cX10_play 42 = .ok (.istore_n 3, 1) := by decide +kernel
theorem dX10_play_43 : decode cX10_play 43 = .ok (.iload_n 2, 1) := by decide +kernel
theorem dX10_play_44 : decode cX10_play 44 = .ok (.aload_n 0, 1) := by decide +kernel
theorem dX10_play_45 : decode cX10_play 45 = .ok (.getfield 26, 3) := by decide +kernel
theorem dX10_play_48 : decode cX10_play 48 = .ok (.getfield 120, 3) := by decide +kernel
theorem dX10_play_51 : decode cX10_play 51 = .ok (.if_icmp .ge 143, 3) := by decide +kernel
theorem dX10_play_54 : decode cX10_play 54 = .ok (.iload_n 3, 1) := by decide +kernel
theorem dX10_play_55 : decode cX10_play 55 = .ok (.ifCond .ne 139, 3) := by decide +kernel
theorem dX10_play_58 : decode cX10_play 58 = .ok (.aload_n 0, 1) := by decide +kernel
theorem dX10_play_59 : decode cX10_play 59 = .ok (.getfield 26, 3) := by decide +kernel
theorem dX10_play_62 : decode cX10_play 62 = .ok (.getfield 123, 3) := by decide +kernel
theorem dX10_play_65 : decode cX10_play 65 = .ok (.iload_n 2, 1) := by decide +kernel
theorem dX10_play_66 : decode cX10_play 66 = .ok (.iaload, 1) := by decide +kernel
theorem dX10_play_67 : decode cX10_play 67 = .ok (.istore 4, 2) := by decide +kernel
theorem dX10_play_69 : decode cX10_play 69 = .ok (.aload_n 0, 1) := by decide +kernel
theorem dX10_play_70 : decode cX10_play 70 = .ok (.getfield 26, 3) := by decide +kernel
theorem dX10_play_73 : decode cX10_play 73 = .ok (.getfield 126, 3) := by decide +kernel
theorem dX10_play_76 : decode cX10_play 76 = .ok (.iload_n 2, 1) := by decide +kernel
theorem dX10_play_77 : decode cX10_play 77 = .ok (.iaload, 1) := by decide +kernel
theorem dX10_play_78 : decode cX10_play 78 = .ok (.tableswitch 87 0 4 #[34, 45, 56, 67, 76], 34) := by decide +kernel
theorem dX10_play_112 : decode cX10_play 112 = .ok (.aload_n 0, 1) := by decide +kernel
theorem dX10_play_113 : decode cX10_play 113 = .ok (.iload 4, 2) := by decide +kernel
theorem dX10_play_115 : decode cX10_play 115 = .ok (.invokevirtual 129, 3) := by decide +kernel
theorem dX10_play_118 : decode cX10_play 118 = .ok (.istore 5, 2) := by decide +kernel
theorem dX10_play_120 : decode cX10_play 120 = .ok (.goto 53, 3) := by decide +kernel
theorem dX10_play_123 : decode cX10_play 123 = .ok (.aload_n 0, 1) := by decide +kernel
theorem dX10_play_124 : decode cX10_play 124 = .ok (.iload 4, 2) := by decide +kernel
theorem dX10_play_126 : decode cX10_play 126 = .ok (.invokevirtual 132, 3) := by decide +kernel
theorem dX10_play_129 : decode cX10_play 129 = .ok (.istore 5, 2) := by decide +kernel
theorem dX10_play_131 : decode cX10_play 131 = .ok (.goto 42, 3) := by decide +kernel
theorem dX10_play_134 : decode cX10_play 134 = .ok (.aload_n 0, 1) := by decide +kernel
theorem dX10_play_135 : decode cX10_play 135 = .ok (.iload 4, 2) := by decide +kernel
theorem dX10_play_137 : decode cX10_play 137 = .ok (.invokevirtual 135, 3) := by decide +kernel
theorem dX10_play_140 : decode cX10_play 140 = .ok (.istore 5, 2) := by decide +kernel
theorem dX10_play_142 : decode cX10_play 142 = .ok (.goto 31, 3) := by decide +kernel
theorem dX10_play_145 : decode cX10_play 145 = .ok (.aload_n 0, 1) := by decide +kernel
theorem dX10_play_146 : decode cX10_play 146 = .ok (.invokevirtual 138, 3) := by decide +kernel
theorem dX10_play_149 : decode cX10_play 149 = .ok (.istore 5, 2) := by decide +kernel
theorem dX10_play_151 : decode cX10_play 151 = .ok (.goto 22, 3) := by decide +kernel
theorem dX10_play_154 : decode cX10_play 154 = .ok (.aload_n 0, 1) := by decide +kernel
theorem dX10_play_155 : decode cX10_play 155 = .ok (.iload 4, 2) := by decide +kernel
theorem dX10_play_157 : decode cX10_play 157 = .ok (.invokevirtual 141, 3) := by decide +kernel
theorem dX10_play_160 : decode cX10_play 160 = .ok (.istore 5, 2) := by decide +kernel
theorem dX10_play_162 : decode cX10_play 162 = .ok (.goto 11, 3) := by decide +kernel
theorem dX10_play_165 : decode cX10_play 165 = .ok (.aload_n 0, 1) := by decide +kernel
theorem dX10_play_166 : decode cX10_play 166 = .ok (.iload 4, 2) := by decide +kernel
theorem dX10_play_168 : decode cX10_play 168 = .ok (.invokevirtual 144, 3) := by decide +kernel
theorem dX10_play_171 : decode cX10_play 171 = .ok (.istore 5, 2) := by decide +kernel
theorem dX10_play_173 : decode cX10_play 173 = .ok (.iload 5, 2) := by decide +kernel
theorem dX10_play_175 : decode cX10_play 175 = .ok (.ifCond .ge 7, 3) := by decide +kernel
theorem dX10_play_178 : decode cX10_play 178 = .ok (.iconst 1, 1) := by decide +kernel
theorem dX10_play_179 : decode cX10_play 179 = .ok (.goto 4, 3) := by decide +kernel
theorem dX10_play_182 : decode cX10_play 182 = .ok (.iconst 0, 1) := by decide +kernel
theorem dX10_play_183 : decode cX10_play 183 = .ok (.istore_n 3, 1) := by decide +kernel
theorem dX10_play_184 : decode cX10_play 184 = .ok (.iload_n 3, 1) := by decide +kernel
theorem dX10_play_185 : decode cX10_play 185 = .ok (.ifCond .ne 6, 3) := by decide +kernel
theorem dX10_play_188 : decode cX10_play 188 = .ok (.iinc 2 1, 3) := by decide +kernel
theorem dX10_play_191 : decode cX10_play 191 = .ok (.goto (-148), 3) := by decide +kernel
theorem dX10_play_194 : decode cX10_play 194 = .ok (.iload_n 2, 1) := by decide +kernel
theorem dX10_play_195 : decode cX10_play 195 = .ok (.ireturn, 1) := by decide +kernel
theorem dX10_errorCode_0 : decode cX10_errorCode 0 = .ok (.aload_n 0, 1) := by decide +kernel
theorem dX10_errorCode_1 : decode cX10_errorCode 1 = .ok (.getfield 10, 3) := by decide +kernel
theorem dX10_errorCode_4 : decode cX10_errorCode 4 = .ok (.getfield 147, 3) := by decide +kernel
theorem dX10_errorCode_7 : decode cX10_errorCode 7 = .ok (.ireturn, 1) := by decide +kernel
theorem dX10_errorPosition_0 : decode cX10_errorPosition 0 = .ok (.aload_n 0, 1) := by decide +kernel
theorem dX10_errorPosition_1 : decode cX10_errorPosition 1 = .ok (.getfield 10, 3) := by decide +kernel
theorem dX10_errorPosition_4 : decode cX10_errorPosition 4 = .ok (.getfield 150, 3) := by decide +kernel
theorem dX10_errorPosition_7 : decode cX10_errorPosition 7 = .ok (.ireturn, 1) := by decide +kernel
theorem dX10_capsule_0 : decode cX10_capsule 0 = .ok (.iload_n 1, 1) := by decide +kernel
theorem dX10_capsule_1 : decode cX10_capsule 1 = .ok (.tableswitch 123 0 8 #[51, 59, 67, 75, 83, 91, 99, 107, 115], 51) := by decide +kernel
theorem dX10_capsule_52 : decode cX10_capsule 52 = .ok (.aload_n 0, 1) := by decide +kernel
theorem dX10_capsule_53 : decode cX10_capsule 53 = .ok (.getfield 33, 3) := by decide +kernel
theorem dX10_capsule_56 : decode cX10_capsule 56 = .ok (.getfield 153, 3) := by decide +kernel
theorem dX10_capsule_59 : decode cX10_capsule 59 = .ok (.ireturn, 1) := by decide +kernel
theorem dX10_capsule_60 : decode cX10_capsule 60 = .ok (.aload_n 0, 1) := by decide +kernel
theorem dX10_capsule_61 : decode cX10_capsule 61 = .ok (.getfield 33, 3) := by decide +kernel
theorem dX10_capsule_64 : decode cX10_capsule 64 = .ok (.getfield 156, 3) := by decide +kernel
theorem dX10_capsule_67 : decode cX10_capsule 67 = .ok (.ireturn, 1) := by decide +kernel
theorem dX10_capsule_68 : decode cX10_capsule 68 = .ok (.aload_n 0, 1) := by decide +kernel
theorem dX10_capsule_69 : decode cX10_capsule 69 = .ok (.getfield 33, 3) := by decide +kernel
theorem dX10_capsule_72 : decode cX10_capsule 72 = .ok (.getfield 159, 3) := by decide +kernel
theorem dX10_capsule_75 : decode cX10_capsule 75 = .ok (.ireturn, 1) := by decide +kernel
theorem dX10_capsule_76 : decode cX10_capsule 76 = .ok (.aload_n 0, 1) := by decide +kernel
theorem dX10_capsule_77 : decode cX10_capsule 77 = .ok (.getfield 33, 3) := by decide +kernel
theorem dX10_capsule_80 : decode cX10_capsule 80 = .ok (.getfield 162, 3) := by decide +kernel
theorem dX10_capsule_83 : decode cX10_capsule 83 = .ok (.ireturn, 1) := by decide +kernel
theorem dX10_capsule_84 : decode cX10_capsule 84 = .ok (.aload_n 0, 1) := by decide +kernel
theorem dX10_capsule_85 : decode cX10_capsule 85 = .ok (.getfield 33, 3) := by decide +kernel
theorem dX10_capsule_88 : decode cX10_capsule 88 = .ok (.getfield 165, 3) := by decide +kernel
theorem dX10_capsule_91 : decode cX10_capsule 91 = .ok (.ireturn, 1) := by decide +kernel
theorem dX10_capsule_92 : decode cX10_capsule 92 = .ok (.aload_n 0, 1) := by decide +kernel
theorem dX10_capsule_93 : decode cX10_capsule 93 = .ok (.getfield 33, 3) := by decide +kernel
theorem dX10_capsule_96 : decode cX10_capsule 96 = .ok (.getfield 168, 3) := by decide +kernel
theorem dX10_capsule_99 : decode cX10_capsule 99 = .ok (.ireturn, 1) := by decide +kernel
theorem dX10_capsule_100 : decode cX10_capsule 100 = .ok (.aload_n 0, 1) := by decide +kernel
theorem dX10_capsule_101 : decode cX10_capsule 101 = .ok (.getfield 33, 3) := by decide +kernel
theorem dX10_capsule_104 : decode cX10_capsule 104 = .ok (.getfield 171, 3) := by decide +kernel
theorem dX10_capsule_107 : decode cX10_capsule 107 = .ok (.ireturn, 1) := by decide +kernel
theorem dX10_capsule_108 : decode cX10_capsule 108 = .ok (.aload_n 0, 1) := by decide +kernel
theorem dX10_capsule_109 : decode cX10_capsule 109 = .ok (.getfield 33, 3) := by decide +kernel
theorem dX10_capsule_112 : decode cX10_capsule 112 = .ok (.invokevirtual 174, 3) := by decide +kernel
theorem dX10_capsule_115 : decode cX10_capsule 115 = .ok (.ireturn, 1) := by decide +kernel
theorem dX10_capsule_116 : decode cX10_capsule 116 = .ok (.aload_n 0, 1) := by decide +kernel
theorem dX10_capsule_117 : decode cX10_capsule 117 = .ok (.getfield 33, 3) := by decide +kernel
theorem dX10_capsule_120 : decode cX10_capsule 120 = .ok (.invokevirtual 177, 3) := by decide +kernel
theorem dX10_capsule_123 : decode cX10_capsule 123 = .ok (.ireturn, 1) := by decide +kernel
theorem dX10_capsule_124 : decode cX10_capsule 124 = .ok (.new 180, 3) := by decide +kernel
theorem dX10_capsule_127 : decode cX10_capsule 127 = .ok (.dup, 1) := by decide +kernel
theorem dX10_capsule_128 : decode cX10_capsule 128 = .ok (.ldc 182, 2) := by decide +kernel
theorem dX10_capsule_130 : decode cX10_capsule 130 = .ok (.invokespecial 184, 3) := by decide +kernel
theorem dX10_capsule_133 : decode cX10_capsule 133 = .ok (.athrow, 1) := by decide +kernel
theorem dX10_size_0 : decode cX10_size 0 = .ok (.iload_n 1, 1) := by decide +kernel
theorem dX10_size_1 : decode cX10_size 1 = .ok (.ifCond .lt 9, 3) := by decide +kernel
theorem dX10_size_4 : decode cX10_size 4 = .ok (.iload_n 1, 1) := by decide +kernel
theorem dX10_size_5 : decode cX10_size 5 = .ok (.bipush 15, 2) := by decide +kernel
theorem dX10_size_7 : decode cX10_size 7 = .ok (.if_icmp .le 13, 3) := by decide +kernel
theorem dX10_size_10 : decode cX10_size 10 = .ok (.new 180, 3) := by decide +kernel
theorem dX10_size_13 : decode cX10_size 13 = .ok (.dup, 1) := by decide +kernel
theorem dX10_size_14 : decode cX10_size 14 = .ok (.ldc 185, 2) := by decide +kernel
theorem dX10_size_16 : decode cX10_size 16 = .ok (.invokespecial 184, 3) := by decide +kernel
theorem dX10_size_19 : decode cX10_size 19 = .ok (.athrow, 1) := by decide +kernel
theorem dX10_size_20 : decode cX10_size 20 = .ok (.iload_n 1, 1) := by decide +kernel
theorem dX10_size_21 : decode cX10_size 21 = .ok (.tableswitch 195 0 15 #[79, 87, 103, 114, 125, 136, 144, 152, 160, 171, 195, 195, 195, 195, 179, 187], 79) := by decide +kernel
theorem dX10_size_100 : decode cX10_size 100 = .ok (.aload_n 0, 1) := by decide +kernel
theorem dX10_size_101 : decode cX10_size 101 = .ok (.getfield 33, 3) := by decide +kernel
theorem dX10_size_104 : decode cX10_size 104 = .ok (.getfield 113, 3) := by decide +kernel
theorem dX10_size_107 : decode cX10_size 107 = .ok (.ireturn, 1) := by decide +kernel
theorem dX10_size_108 : decode cX10_size 108 = .ok (.aload_n 0, 1) := by decide +kernel
theorem dX10_size_109 : decode cX10_size 109 = .ok (.getfield 33, 3) := by decide +kernel
theorem dX10_size_112 : decode cX10_size 112 = .ok (.getfield 187, 3) := by decide +kernel
theorem dX10_size_115 : decode cX10_size 115 = .ok (.ifCond .eq 7, 3) := by decide +kernel
theorem dX10_size_118 : decode cX10_size 118 = .ok (.iconst 1, 1) := by decide +kernel
theorem dX10_size_119 : decode cX10_size 119 = .ok (.goto 4, 3) := by decide +kernel
theorem dX10_size_122 : decode cX10_size 122 = .ok (.iconst 0, 1) := by decide +kernel
theorem dX10_size_123 : decode cX10_size 123 = .ok (.ireturn, 1) := by decide +kernel
theorem dX10_size_124 : decode cX10_size 124 = .ok (.aload_n 0, 1) := by decide +kernel
theorem dX10_size_125 : decode cX10_size 125 = .ok (.getfield 33, 3) := by decide +kernel
theorem dX10_size_128 : decode cX10_size 128 = .ok (.getfield 191, 3) := by decide +kernel
theorem dX10_size_131 : decode cX10_size 131 = .ok (.getfield 195, 3) := by decide +kernel
theorem dX10_size_134 : decode cX10_size 134 = .ok (.ireturn, 1) := by decide +kernel
theorem dX10_size_135 : decode cX10_size 135 = .ok (.aload_n 0, 1) := by decide +kernel
theorem dX10_size_136 : decode cX10_size 136 = .ok (.getfield 33, 3) := by decide +kernel
theorem dX10_size_139 : decode cX10_size 139 = .ok (.getfield 198, 3) := by decide +kernel
theorem dX10_size_142 : decode cX10_size 142 = .ok (.getfield 195, 3) := by decide +kernel
theorem dX10_size_145 : decode cX10_size 145 = .ok (.ireturn, 1) := by decide +kernel
theorem dX10_size_146 : decode cX10_size 146 = .ok (.aload_n 0, 1) := by decide +kernel
theorem dX10_size_147 : decode cX10_size 147 = .ok (.getfield 33, 3) := by decide +kernel
theorem dX10_size_150 : decode cX10_size 150 = .ok (.getfield 201, 3) := by decide +kernel
theorem dX10_size_153 : decode cX10_size 153 = .ok (.getfield 205, 3) := by decide +kernel
theorem dX10_size_156 : decode cX10_size 156 = .ok (.ireturn, 1) := by decide +kernel
theorem dX10_size_157 : decode cX10_size 157 = .ok (.aload_n 0, 1) := by decide +kernel
theorem dX10_size_158 : decode cX10_size 158 = .ok (.getfield 33, 3) := by decide +kernel
theorem dX10_size_161 : decode cX10_size 161 = .ok (.getfield 208, 3) := by decide +kernel
theorem dX10_size_164 : decode cX10_size 164 = .ok (.ireturn, 1) := by decide +kernel
theorem dX10_size_165 : decode cX10_size 165 = .ok (.aload_n 0, 1) := by decide +kernel
theorem dX10_size_166 : decode cX10_size 166 = .ok (.getfield 33, 3) := by decide +kernel
theorem dX10_size_169 : decode cX10_size 169 = .ok (.invokevirtual 211, 3) := by decide +kernel
theorem dX10_size_172 : decode cX10_size 172 = .ok (.ireturn, 1) := by decide +kernel
theorem dX10_size_173 : decode cX10_size 173 = .ok (.aload_n 0, 1) := by decide +kernel
theorem dX10_size_174 : decode cX10_size 174 = .ok (.getfield 33, 3) := by decide +kernel
theorem dX10_size_177 : decode cX10_size 177 = .ok (.invokevirtual 214, 3) := by decide +kernel
theorem dX10_size_180 : decode cX10_size 180 = .ok (.ireturn, 1) := by decide +kernel
theorem dX10_size_181 : decode cX10_size 181 = .ok (.aload_n 0, 1) := by decide +kernel
theorem dX10_size_182 : decode cX10_size 182 = .ok (.getfield 33, 3) := by decide +kernel
theorem dX10_size_185 : decode cX10_size 185 = .ok (.getfield 217, 3) := by decide +kernel
theorem dX10_size_188 : decode cX10_size 188 = .ok (.getfield 221, 3) := by decide +kernel
theorem dX10_size_191 : decode cX10_size 191 = .ok (.ireturn, 1) := by decide +kernel
theorem dX10_size_192 : decode cX10_size 192 = .ok (.aload_n 0, 1) := by decide +kernel
theorem dX10_size_193 : decode cX10_size 193 = .ok (.getfield 43, 3) := by decide +kernel
theorem dX10_size_196 : decode cX10_size 196 = .ok (.getfield 224, 3) := by decide +kernel
theorem dX10_size_199 : decode cX10_size 199 = .ok (.ireturn, 1) := by decide +kernel
theorem dX10_size_200 : decode cX10_size 200 = .ok (.aload_n 0, 1) := by decide +kernel
theorem dX10_size_201 : decode cX10_size 201 = .ok (.getfield 33, 3) := by decide +kernel
theorem dX10_size_204 : decode cX10_size 204 = .ok (.getfield 225, 3) := by decide +kernel
theorem dX10_size_207 : decode cX10_size 207 = .ok (.ireturn, 1) := by decide +kernel
theorem dX10_size_208 : decode cX10_size 208 = .ok (.aload_n 0, 1) := by decide +kernel
theorem dX10_size_209 : decode cX10_size 209 = .ok (.getfield 33, 3) := by decide +kernel
theorem dX10_size_212 : decode cX10_size 212 = .ok (.getfield 228, 3) := by decide +kernel
theorem dX10_size_215 : decode cX10_size 215 = .ok (.ireturn, 1) := by decide +kernel
theorem dX10_size_216 : decode cX10_size 216 = .ok (.aload_n 0, 1) := by decide +kernel
theorem dX10_size_217 : decode cX10_size 217 = .ok (.getfield 33, 3) := by decide +kernel
theorem dX10_size_220 : decode cX10_size 220 = .ok (.iload_n 1, 1) := by decide +kernel
theorem dX10_size_221 : decode cX10_size 221 = .ok (.invokevirtual 231, 3) := by decide +kernel
theorem dX10_size_224 : decode cX10_size 224 = .ok (.ireturn, 1) := by decide +kernel
theorem dX10_chute_0 : decode cX10_chute 0 = .ok (.aload_n 0, 1) := by decide +kernel
theorem dX10_chute_1 : decode cX10_chute 1 = .ok (.getfield 33, 3) := by decide +kernel
theorem dX10_chute_4 : decode cX10_chute 4 = .ok (.iload_n 1, 1) := by decide +kernel
theorem dX10_chute_5 : decode cX10_chute 5 = .ok (.invokevirtual 234, 3) := by decide +kernel
theorem dX10_chute_8 : decode cX10_chute 8 = .ok (.ifCond .ne 13, 3) := by decide +kernel
theorem dX10_chute_11 : decode cX10_chute 11 = .ok (.new 238, 3) := by decide +kernel
theorem dX10_chute_14 : decode cX10_chute 14 = .ok (.dup, 1) := by decide +kernel
theorem dX10_chute_15 : decode cX10_chute 15 = .ok (.ldc 240, 2) := by decide +kernel
theorem dX10_chute_17 : decode cX10_chute 17 = .ok (.invokespecial 242, 3) := by decide +kernel
theorem dX10_chute_20 : decode cX10_chute 20 = .ok (.athrow, 1) := by decide +kernel
theorem dX10_chute_21 : decode cX10_chute 21 = .ok (.aload_n 0, 1) := by decide +kernel
theorem dX10_chute_22 : decode cX10_chute 22 = .ok (.getfield 33, 3) := by decide +kernel
theorem dX10_chute_25 : decode cX10_chute 25 = .ok (.iload_n 1, 1) := by decide +kernel
theorem dX10_chute_26 : decode cX10_chute 26 = .ok (.invokevirtual 243, 3) := by decide +kernel
theorem dX10_chute_29 : decode cX10_chute 29 = .ok (.astore_n 3, 1) := by decide +kernel
theorem dX10_chute_30 : decode cX10_chute 30 = .ok (.iload_n 2, 1) := by decide +kernel
theorem dX10_chute_31 : decode cX10_chute 31 = .ok (.tableswitch 105 0 7 #[45, 50, 55, 60, 65, 70, 75, 92], 45) := by decide +kernel
theorem dX10_chute_76 : decode cX10_chute 76 = .ok (.aload_n 3, 1) := by decide +kernel
theorem dX10_chute_77 : decode cX10_chute 77 = .ok (.getfield 247, 3) := by decide +kernel
theorem dX10_chute_80 : decode cX10_chute 80 = .ok (.ireturn, 1) := by decide +kernel
theorem dX10_chute_81 : decode cX10_chute 81 = .ok (.aload_n 3, 1) := by decide +kernel
theorem dX10_chute_82 : decode cX10_chute 82 = .ok (.getfield 252, 3) := by decide +kernel
theorem dX10_chute_85 : decode cX10_chute 85 = .ok (.ireturn, 1) := by decide +kernel
theorem dX10_chute_86 : decode cX10_chute 86 = .ok (.aload_n 3, 1) := by decide +kernel
theorem dX10_chute_87 : decode cX10_chute 87 = .ok (.getfield 255, 3) := by decide +kernel
theorem dX10_chute_90 : decode cX10_chute 90 = .ok (.ireturn, 1) := by decide +kernel
theorem dX10_chute_91 : decode cX10_chute 91 = .ok (.aload_n 3, 1) := by decide +kernel
theorem dX10_chute_92 : decode cX10_chute 92 = .ok (.getfield 258, 3) := by decide +kernel
theorem dX10_chute_95 : decode cX10_chute 95 = .ok (.ireturn, 1) := by decide +kernel
theorem dX10_chute_96 : decode cX10_chute 96 = .ok (.aload_n 3, 1) := by decide +kernel
theorem dX10_chute_97 : decode cX10_chute 97 = .ok (.getfield 261, 3) := by decide +kernel
theorem dX10_chute_100 : decode cX10_chute 100 = .ok (.ireturn, 1) := by decide +kernel
theorem dX10_chute_101 : decode cX10_chute 101 = .ok (.aload_n 3, 1) := by decide +kernel
theorem dX10_chute_102 : decode cX10_chute 102 = .ok (.getfield 264, 3) := by decide +kernel
theorem dX10_chute_105 : decode cX10_chute 105 = .ok (.ireturn, 1) := by decide +kernel
theorem dX10_chute_106 : decode cX10_chute 106 = .ok (.aload_n 3, 1) := by decide +kernel
theorem dX10_chute_107 : decode cX10_chute 107 = .ok (.getfield 264, 3) := by decide +kernel
theorem dX10_chute_110 : decode cX10_chute 110 = .ok (.iconst 4, 1) := by decide +kernel
theorem dX10_chute_111 : decode cX10_chute 111 = .ok (.if_icmp .ne 7, 3) := by decide +kernel
theorem dX10_chute_114 : decode cX10_chute 114 = .ok (.iconst 0, 1) := by decide +kernel
theorem dX10_chute_115 : decode cX10_chute 115 = .ok (.goto 7, 3) := by decide +kernel
theorem dX10_chute_118 : decode cX10_chute 118 = .ok (.aload_n 3, 1) := by decide +kernel
theorem dX10_chute_119 : decode cX10_chute 119 = .ok (.invokevirtual 267, 3) := by decide +kernel
theorem dX10_chute_122 : decode cX10_chute 122 = .ok (.ireturn, 1) := by decide +kernel
theorem dX10_chute_123 : decode cX10_chute 123 = .ok (.aload_n 3, 1) := by decide +kernel
theorem dX10_chute_124 : decode cX10_chute 124 = .ok (.getfield 270, 3) := by decide +kernel
theorem dX10_chute_127 : decode cX10_chute 127 = .ok (.ifCond .eq 7, 3) := by decide +kernel
theorem dX10_chute_130 : decode cX10_chute 130 = .ok (.iconst 1, 1) := by decide +kernel
theorem dX10_chute_131 : decode cX10_chute 131 = .ok (.goto 4, 3) := by decide +kernel
theorem dX10_chute_134 : decode cX10_chute 134 = .ok (.iconst 0, 1) := by decide +kernel
theorem dX10_chute_135 : decode cX10_chute 135 = .ok (.ireturn, 1) := by decide +kernel
theorem dX10_chute_136 : decode cX10_chute 136 = .ok (.new 180, 3) := by decide +kernel
theorem dX10_chute_139 : decode cX10_chute 139 = .ok (.dup, 1) := by decide +kernel
theorem dX10_chute_140 : decode cX10_chute 140 = .ok (.ldc_w 273, 3) := by decide +kernel
theorem dX10_chute_143 : decode cX10_chute 143 = .ok (.invokespecial 184, 3) := by decide +kernel
theorem dX10_chute_146 : decode cX10_chute 146 = .ok (.athrow, 1) := by decide +kernel
theorem dX10_line_0 : decode cX10_line 0 = .ok (.aload_n 0, 1) := by decide +kernel
theorem dX10_line_1 : decode cX10_line 1 = .ok (.getfield 33, 3) := by decide +kernel
theorem dX10_line_4 : decode cX10_line 4 = .ok (.iload_n 1, 1) := by decide +kernel
theorem dX10_line_5 : decode cX10_line 5 = .ok (.invokevirtual 234, 3) := by decide +kernel
theorem dX10_line_8 : decode cX10_line 8 = .ok (.ifCond .ne 13, 3) := by decide +kernel
theorem dX10_line_11 : decode cX10_line 11 = .ok (.new 238, 3) := by decide +kernel
theorem dX10_line_14 : decode cX10_line 14 = .ok (.dup, 1) := by decide +kernel
theorem dX10_line_15 : decode cX10_line 15 = .ok (.ldc 240, 2) := by decide +kernel
theorem dX10_line_17 : decode cX10_line 17 = .ok (.invokespecial 242, 3) := by decide +kernel
theorem dX10_line_20 : decode cX10_line 20 = .ok (.athrow, 1) := by decide +kernel
theorem dX10_line_21 : decode cX10_line 21 = .ok (.aload_n 0, 1) := by decide +kernel
theorem dX10_line_22 : decode cX10_line 22 = .ok (.getfield 33, 3) := by decide +kernel
theorem dX10_line_25 : decode cX10_line 25 = .ok (.iload_n 1, 1) := by decide +kernel
theorem dX10_line_26 : decode cX10_line 26 = .ok (.invokevirtual 243, 3) := by decide +kernel
theorem dX10_line_29 : decode cX10_line 29 = .ok (.astore_n 3, 1) := by decide +kernel
theorem dX10_line_30 : decode cX10_line 30 = .ok (.iload_n 2, 1) := by decide +kernel
theorem dX10_line_31 : decode cX10_line 31 = .ok (.ifCond .lt 11, 3) := by decide +kernel
theorem dX10_line_34 : decode cX10_line 34 = .ok (.iload_n 2, 1) := by decide +kernel
theorem dX10_line_35 : decode cX10_line 35 = .ok (.aload_n 3, 1) := by decide +kernel
theorem dX10_line_36 : decode cX10_line 36 = .ok (.getfield 252, 3) := by decide +kernel
theorem dX10_line_39 : decode cX10_line 39 = .ok (.if_icmp .lt 14, 3) := by decide +kernel
theorem dX10_line_42 : decode cX10_line 42 = .ok (.new 238, 3) := by decide +kernel
theorem dX10_line_45 : decode cX10_line 45 = .ok (.dup, 1) := by decide +kernel
theorem dX10_line_46 : decode cX10_line 46 = .ok (.ldc_w 275, 3) := by decide +kernel
theorem dX10_line_49 : decode cX10_line 49 = .ok (.invokespecial 242, 3) := by decide +kernel
theorem dX10_line_52 : decode cX10_line 52 = .ok (.athrow, 1) := by decide +kernel
theorem dX10_line_53 : decode cX10_line 53 = .ok (.iload_n 2, 1) := by decide +kernel
theorem dX10_line_54 : decode cX10_line 54 = .ok (.aload_n 3, 1) := by decide +kernel
theorem dX10_line_55 : decode cX10_line 55 = .ok (.getfield 277, 3) := by decide +kernel
theorem dX10_line_58 : decode cX10_line 58 = .ok (.if_icmp .ge 7, 3) := by decide +kernel
theorem dX10_line_61 : decode cX10_line 61 = .ok (.iconst (-1), 1) := by decide +kernel
theorem dX10_line_62 : decode cX10_line 62 = .ok (.goto 8, 3) := by decide +kernel
theorem dX10_line_65 : decode cX10_line 65 = .ok (.aload_n 3, 1) := by decide +kernel
theorem dX10_line_66 : decode cX10_line 66 = .ok (.iload_n 2, 1) := by decide +kernel
theorem dX10_line_67 : decode cX10_line 67 = .ok (.invokevirtual 280, 3) := by decide +kernel
theorem dX10_line_70 : decode cX10_line 70 = .ok (.ireturn, 1) := by decide +kernel
theorem dX10_targetAt_0 : decode cX10_targetAt 0 = .ok (.iload_n 1, 1) := by decide +kernel
theorem dX10_targetAt_1 : decode cX10_targetAt 1 = .ok (.ifCond .lt 10, 3) := by decide +kernel
theorem dX10_targetAt_4 : decode cX10_targetAt 4 = .ok (.iload_n 1, 1) := by decide +kernel
theorem dX10_targetAt_5 : decode cX10_targetAt 5 = .ok (.sipush 30000, 3) := by decide +kernel
theorem dX10_targetAt_8 : decode cX10_targetAt 8 = .ok (.if_icmp .le 14, 3) := by decide +kernel
theorem dX10_targetAt_11 : decode cX10_targetAt 11 = .ok (.new 180, 3) := by decide +kernel
theorem dX10_targetAt_14 : decode cX10_targetAt 14 = .ok (.dup, 1) := by decide +kernel
theorem dX10_targetAt_15 : decode cX10_targetAt 15 = .ok (.ldc_w 283, 3) := by decide +kernel
theorem dX10_targetAt_18 : decode cX10_targetAt 18 = .ok (.invokespecial 184, 3) := by decide +kernel
theorem dX10_targetAt_21 : decode cX10_targetAt 21 = .ok (.athrow, 1) := by decide +kernel
theorem dX10_targetAt_22 : decode cX10_targetAt 22 = .ok (.aload_n 0, 1) := by decide +kernel
theorem dX10_targetAt_23 : decode cX10_targetAt 23 = .ok (.getfield 33, 3) := by decide +kernel
theorem dX10_targetAt_26 : decode cX10_targetAt 26 = .ok (.getfield 191, 3) := by decide +kernel
theorem dX10_targetAt_29 : decode cX10_targetAt 29 = .ok (.iload_n 1, 1) := by decide +kernel
theorem dX10_targetAt_30 : decode cX10_targetAt 30 = .ok (.iconst (-1), 1) := by decide +kernel
theorem dX10_targetAt_31 : decode cX10_targetAt 31 = .ok (.invokevirtual 285, 3) := by decide +kernel
theorem dX10_targetAt_34 : decode cX10_targetAt 34 = .ok (.ireturn, 1) := by decide +kernel
theorem dX10_windAt_0 : decode cX10_windAt 0 = .ok (.iload_n 1, 1) := by decide +kernel
theorem dX10_windAt_1 : decode cX10_windAt 1 = .ok (.ifCond .lt 10, 3) := by decide +kernel
theorem dX10_windAt_4 : decode cX10_windAt 4 = .ok (.iload_n 1, 1) := by decide +kernel
theorem dX10_windAt_5 : decode cX10_windAt 5 = .ok (.sipush 30000, 3) := by decide +kernel
theorem dX10_windAt_8 : decode cX10_windAt 8 = .ok (.if_icmp .le 14, 3) := by decide +kernel
theorem dX10_windAt_11 : decode cX10_windAt 11 = .ok (.new 180, 3) := by decide +kernel
theorem dX10_windAt_14 : decode cX10_windAt 14 = .ok (.dup, 1) := by decide +kernel
theorem dX10_windAt_15 : decode cX10_windAt 15 = .ok (.ldc_w 283, 3) := by decide +kernel
theorem dX10_windAt_18 : decode cX10_windAt 18 = .ok (.invokespecial 184, 3) := by decide +kernel
theorem dX10_windAt_21 : decode cX10_windAt 21 = .ok (.athrow, 1) := by decide +kernel
theorem dX10_windAt_22 : decode cX10_windAt 22 = .ok (.aload_n 0, 1) := by decide +kernel
theorem dX10_windAt_23 : decode cX10_windAt 23 = .ok (.getfield 33, 3) := by decide +kernel
theorem dX10_windAt_26 : decode cX10_windAt 26 = .ok (.getfield 198, 3) := by decide +kernel
theorem dX10_windAt_29 : decode cX10_windAt 29 = .ok (.iload_n 1, 1) := by decide +kernel
theorem dX10_windAt_30 : decode cX10_windAt 30 = .ok (.iconst 0, 1) := by decide +kernel
theorem dX10_windAt_31 : decode cX10_windAt 31 = .ok (.invokevirtual 289, 3) := by decide +kernel
theorem dX10_windAt_34 : decode cX10_windAt 34 = .ok (.ireturn, 1) := by decide +kernel
theorem dX10_spot_0 : decode cX10_spot 0 = .ok (.aload_n 0, 1) := by decide +kernel
theorem dX10_spot_1 : decode cX10_spot 1 = .ok (.getfield 33, 3) := by decide +kernel
theorem dX10_spot_4 : decode cX10_spot 4 = .ok (.getfield 201, 3) := by decide +kernel
theorem dX10_spot_7 : decode cX10_spot 7 = .ok (.iload_n 1, 1) := by decide +kernel
theorem dX10_spot_8 : decode cX10_spot 8 = .ok (.invokevirtual 292, 3) := by decide +kernel
theorem dX10_spot_11 : decode cX10_spot 11 = .ok (.ifCond .ne 14, 3) := by decide +kernel
theorem dX10_spot_14 : decode cX10_spot 14 = .ok (.new 238, 3) := by decide +kernel
theorem dX10_spot_17 : decode cX10_spot 17 = .ok (.dup, 1) := by decide +kernel
theorem dX10_spot_18 : decode cX10_spot 18 = .ok (.ldc_w 295, 3) := by decide +kernel
theorem dX10_spot_21 : decode cX10_spot 21 = .ok (.invokespecial 242, 3) := by decide +kernel
theorem dX10_spot_24 : decode cX10_spot 24 = .ok (.athrow, 1) := by decide +kernel
theorem dX10_spot_25 : decode cX10_spot 25 = .ok (.iload_n 2, 1) := by decide +kernel
theorem dX10_spot_26 : decode cX10_spot 26 = .ok (.tableswitch 65 0 2 #[26, 39, 52], 26) := by decide +kernel
theorem dX10_spot_52 : decode cX10_spot 52 = .ok (.aload_n 0, 1) := by decide +kernel
theorem dX10_spot_53 : decode cX10_spot 53 = .ok (.getfield 33, 3) := by decide +kernel
theorem dX10_spot_56 : decode cX10_spot 56 = .ok (.getfield 201, 3) := by decide +kernel
theorem dX10_spot_59 : decode cX10_spot 59 = .ok (.getfield 297, 3) := by decide +kernel
theorem dX10_spot_62 : decode cX10_spot 62 = .ok (.iload_n 1, 1) := by decide +kernel
theorem dX10_spot_63 : decode cX10_spot 63 = .ok (.iaload, 1) := by decide +kernel
theorem dX10_spot_64 : decode cX10_spot 64 = .ok (.ireturn, 1) := by decide +kernel
theorem dX10_spot_65 : decode cX10_spot 65 = .ok (.aload_n 0, 1) := by decide +kernel
theorem dX10_spot_66 : decode cX10_spot 66 = .ok (.getfield 33, 3) := by decide +kernel
theorem dX10_spot_69 : decode cX10_spot 69 = .ok (.getfield 201, 3) := by decide +kernel
theorem dX10_spot_72 : decode cX10_spot 72 = .ok (.getfield 300, 3) := by decide +kernel
theorem dX10_spot_75 : decode cX10_spot 75 = .ok (.iload_n 1, 1) := by decide +kernel
theorem dX10_spot_76 : decode cX10_spot 76 = .ok (.iaload, 1) := by decide +kernel
theorem dX10_spot_77 : decode cX10_spot 77 = .ok (.ireturn, 1) := by decide +kernel
theorem dX10_spot_78 : decode cX10_spot 78 = .ok (.aload_n 0, 1) := by decide +kernel
theorem dX10_spot_79 : decode cX10_spot 79 = .ok (.getfield 33, 3) := by decide +kernel
theorem dX10_spot_82 : decode cX10_spot 82 = .ok (.getfield 201, 3) := by decide +kernel
theorem dX10_spot_85 : decode cX10_spot 85 = .ok (.getfield 303, 3) := by decide +kernel
theorem dX10_spot_88 : decode cX10_spot 88 = .ok (.iload_n 1, 1) := by decide +kernel
theorem dX10_spot_89 : decode cX10_spot 89 = .ok (.iaload, 1) := by decide +kernel
theorem dX10_spot_90 : decode cX10_spot 90 = .ok (.ireturn, 1) := by decide +kernel
theorem dX10_spot_91 : decode cX10_spot 91 = .ok (.new 180, 3) := by decide +kernel
theorem dX10_spot_94 : decode cX10_spot 94 = .ok (.dup, 1) := by decide +kernel
theorem dX10_spot_95 : decode cX10_spot 95 = .ok (.ldc_w 306, 3) := by decide +kernel
theorem dX10_spot_98 : decode cX10_spot 98 = .ok (.invokespecial 184, 3) := by decide +kernel
theorem dX10_spot_101 : decode cX10_spot 101 = .ok (.athrow, 1) := by decide +kernel
theorem dX10_event_0 : decode cX10_event 0 = .ok (.iload_n 1, 1) := by decide +kernel
theorem dX10_event_1 : decode cX10_event 1 = .ok (.ifCond .lt 17, 3) := by decide +kernel
theorem dX10_event_4 : decode cX10_event 4 = .ok (.iload_n 1, 1) := by decide +kernel
theorem dX10_event_5 : decode cX10_event 5 = .ok (.aload_n 0, 1) := by decide +kernel
theorem dX10_event_6 : decode cX10_event 6 = .ok (.getfield 33, 3) := by decide +kernel
theorem dX10_event_9 : decode cX10_event 9 = .ok (.getfield 217, 3) := by decide +kernel
theorem dX10_event_12 : decode cX10_event 12 = .ok (.getfield 221, 3) := by decide +kernel
theorem dX10_event_15 : decode cX10_event 15 = .ok (.if_icmp .lt 14, 3) := by decide +kernel
theorem dX10_event_18 : decode cX10_event 18 = .ok (.new 308, 3) := by decide +kernel
theorem dX10_event_21 : decode cX10_event 21 = .ok (.dup, 1) := by decide +kernel
theorem dX10_event_22 : decode cX10_event 22 = .ok (.ldc_w 310, 3) := by decide +kernel
theorem dX10_event_25 : decode cX10_event 25 = .ok (.invokespecial 312, 3) := by decide +kernel
theorem dX10_event_28 : decode cX10_event 28 = .ok (.athrow, 1) := by decide +kernel
theorem dX10_event_29 : decode cX10_event 29 = .ok (.iload_n 2, 1) := by decide +kernel
theorem dX10_event_30 : decode cX10_event 30 = .ok (.ifCond .lt 8, 3) := by decide +kernel
theorem dX10_event_33 : decode cX10_event 33 = .ok (.iload_n 2, 1) := by decide +kernel
theorem dX10_event_34 : decode cX10_event 34 = .ok (.iconst 4, 1) := by decide +kernel
theorem dX10_event_35 : decode cX10_event 35 = .ok (.if_icmp .lt 14, 3) := by decide +kernel
theorem dX10_event_38 : decode cX10_event 38 = .ok (.new 180, 3) := by decide +kernel
theorem dX10_event_41 : decode cX10_event 41 = .ok (.dup, 1) := by decide +kernel
theorem dX10_event_42 : decode cX10_event 42 = .ok (.ldc_w 313, 3) := by decide +kernel
theorem dX10_event_45 : decode cX10_event 45 = .ok (.invokespecial 184, 3) := by decide +kernel
theorem dX10_event_48 : decode cX10_event 48 = .ok (.athrow, 1) := by decide +kernel
theorem dX10_event_49 : decode cX10_event 49 = .ok (.aload_n 0, 1) := by decide +kernel
theorem dX10_event_50 : decode cX10_event 50 = .ok (.getfield 33, 3) := by decide +kernel
theorem dX10_event_53 : decode cX10_event 53 = .ok (.getfield 217, 3) := by decide +kernel
theorem dX10_event_56 : decode cX10_event 56 = .ok (.iload_n 1, 1) := by decide +kernel
theorem dX10_event_57 : decode cX10_event 57 = .ok (.iload_n 2, 1) := by decide +kernel
theorem dX10_event_58 : decode cX10_event 58 = .ok (.invokevirtual 315, 3) := by decide +kernel
theorem dX10_event_61 : decode cX10_event 61 = .ok (.ireturn, 1) := by decide +kernel
theorem dX10_account_0 : decode cX10_account 0 = .ok (.iload_n 1, 1) := by decide +kernel
theorem dX10_account_1 : decode cX10_account 1 = .ok (.ifCond .lt 9, 3) := by decide +kernel
theorem dX10_account_4 : decode cX10_account 4 = .ok (.iload_n 1, 1) := by decide +kernel
theorem dX10_account_5 : decode cX10_account 5 = .ok (.bipush 10, 2) := by decide +kernel
theorem dX10_account_7 : decode cX10_account 7 = .ok (.if_icmp .lt 14, 3) := by decide +kernel
theorem dX10_account_10 : decode cX10_account 10 = .ok (.new 180, 3) := by decide +kernel
theorem dX10_account_13 : decode cX10_account 13 = .ok (.dup, 1) := by decide +kernel
theorem dX10_account_14 : decode cX10_account 14 = .ok (.ldc_w 318, 3) := by decide +kernel
theorem dX10_account_17 : decode cX10_account 17 = .ok (.invokespecial 184, 3) := by decide +kernel
theorem dX10_account_20 : decode cX10_account 20 = .ok (.athrow, 1) := by decide +kernel
theorem dX10_account_21 : decode cX10_account 21 = .ok (.aload_n 0, 1) := by decide +kernel
theorem dX10_account_22 : decode cX10_account 22 = .ok (.getfield 55, 3) := by decide +kernel
theorem dX10_account_25 : decode cX10_account 25 = .ok (.iload_n 1, 1) := by decide +kernel
theorem dX10_account_26 : decode cX10_account 26 = .ok (.iaload, 1) := by decide +kernel
theorem dX10_account_27 : decode cX10_account 27 = .ok (.ireturn, 1) := by decide +kernel
theorem dX10_asks_0 : decode cX10_asks 0 = .ok (.aload_n 0, 1) := by decide +kernel
theorem dX10_asks_1 : decode cX10_asks 1 = .ok (.getfield 33, 3) := by decide +kernel
theorem dX10_asks_4 : decode cX10_asks 4 = .ok (.invokevirtual 320, 3) := by decide +kernel
theorem dX10_asks_7 : decode cX10_asks 7 = .ok (.ireturn, 1) := by decide +kernel
theorem dX10_why_0 : decode cX10_why 0 = .ok (.aload_n 0, 1) := by decide +kernel
theorem dX10_why_1 : decode cX10_why 1 = .ok (.getfield 33, 3) := by decide +kernel
theorem dX10_why_4 : decode cX10_why 4 = .ok (.iload_n 1, 1) := by decide +kernel
theorem dX10_why_5 : decode cX10_why 5 = .ok (.invokevirtual 324, 3) := by decide +kernel
theorem dX10_why_8 : decode cX10_why 8 = .ok (.ifCond .ne 14, 3) := by decide +kernel
theorem dX10_why_11 : decode cX10_why 11 = .ok (.new 238, 3) := by decide +kernel
theorem dX10_why_14 : decode cX10_why 14 = .ok (.dup, 1) := by decide +kernel
theorem dX10_why_15 : decode cX10_why 15 = .ok (.ldc_w 327, 3) := by decide +kernel
theorem dX10_why_18 : decode cX10_why 18 = .ok (.invokespecial 242, 3) := by decide +kernel
theorem dX10_why_21 : decode cX10_why 21 = .ok (.athrow, 1) := by decide +kernel
theorem dX10_why_22 : decode cX10_why 22 = .ok (.aload_n 0, 1) := by decide +kernel
theorem dX10_why_23 : decode cX10_why 23 = .ok (.getfield 33, 3) := by decide +kernel
theorem dX10_why_26 : decode cX10_why 26 = .ok (.iload_n 1, 1) := by decide +kernel
theorem dX10_why_27 : decode cX10_why 27 = .ok (.invokevirtual 329, 3) := by decide +kernel
theorem dX10_why_30 : decode cX10_why 30 = .ok (.ireturn, 1) := by decide +kernel
theorem dX10_whyReserve_0 : decode cX10_whyReserve 0 = .ok (.aload_n 0, 1) := by decide +kernel
theorem dX10_whyReserve_1 : decode cX10_whyReserve 1 = .ok (.getfield 33, 3) := by decide +kernel
theorem dX10_whyReserve_4 : decode cX10_whyReserve 4 = .ok (.invokevirtual 332, 3) := by decide +kernel
theorem dX10_whyReserve_7 : decode cX10_whyReserve 7 = .ok (.ireturn, 1) := by decide +kernel
theorem dX10_loadOn_0 : decode cX10_loadOn 0 = .ok (.aload_n 0, 1) := by decide +kernel
theorem dX10_loadOn_1 : decode cX10_loadOn 1 = .ok (.getfield 33, 3) := by decide +kernel
theorem dX10_loadOn_4 : decode cX10_loadOn 4 = .ok (.iload_n 1, 1) := by decide +kernel
theorem dX10_loadOn_5 : decode cX10_loadOn 5 = .ok (.invokevirtual 234, 3) := by decide +kernel
theorem dX10_loadOn_8 : decode cX10_loadOn 8 = .ok (.ifCond .ne 13, 3) := by decide +kernel
theorem dX10_loadOn_11 : decode cX10_loadOn 11 = .ok (.new 238, 3) := by decide +kernel
theorem dX10_loadOn_14 : decode cX10_loadOn 14 = .ok (.dup, 1) := by decide +kernel
theorem dX10_loadOn_15 : decode cX10_loadOn 15 = .ok (.ldc 240, 2) := by decide +kernel
theorem dX10_loadOn_17 : decode cX10_loadOn 17 = .ok (.invokespecial 242, 3) := by decide +kernel
theorem dX10_loadOn_20 : decode cX10_loadOn 20 = .ok (.athrow, 1) := by decide +kernel
theorem dX10_loadOn_21 : decode cX10_loadOn 21 = .ok (.aload_n 0, 1) := by decide +kernel
theorem dX10_loadOn_22 : decode cX10_loadOn 22 = .ok (.getfield 33, 3) := by decide +kernel
theorem dX10_loadOn_25 : decode cX10_loadOn 25 = .ok (.iload_n 1, 1) := by decide +kernel
theorem dX10_loadOn_26 : decode cX10_loadOn 26 = .ok (.invokevirtual 243, 3) := by decide +kernel
theorem dX10_loadOn_29 : decode cX10_loadOn 29 = .ok (.astore_n 2, 1) := by decide +kernel
theorem dX10_loadOn_30 : decode cX10_loadOn 30 = .ok (.aload_n 2, 1) := by decide +kernel
theorem dX10_loadOn_31 : decode cX10_loadOn 31 = .ok (.getfield 264, 3) := by decide +kernel
theorem dX10_loadOn_34 : decode cX10_loadOn 34 = .ok (.iconst 1, 1) := by decide +kernel
theorem dX10_loadOn_35 : decode cX10_loadOn 35 = .ok (.if_icmp .eq 5, 3) := by decide +kernel
theorem dX10_loadOn_38 : decode cX10_loadOn 38 = .ok (.iconst 0, 1) := by decide +kernel
theorem dX10_loadOn_39 : decode cX10_loadOn 39 = .ok (.ireturn, 1) := by decide +kernel
theorem dX10_loadOn_40 : decode cX10_loadOn 40 = .ok (.aload_n 2, 1) := by decide +kernel
theorem dX10_loadOn_41 : decode cX10_loadOn 41 = .ok (.aload_n 0, 1) := by decide +kernel
theorem dX10_loadOn_42 : decode cX10_loadOn 42 = .ok (.getfield 33, 3) := by decide +kernel
theorem dX10_loadOn_45 : decode cX10_loadOn 45 = .ok (.invokevirtual 174, 3) := by decide +kernel
theorem dX10_loadOn_48 : decode cX10_loadOn 48 = .ok (.aload_n 0, 1) := by decide +kernel
theorem dX10_loadOn_49 : decode cX10_loadOn 49 = .ok (.getfield 33, 3) := by decide +kernel
theorem dX10_loadOn_52 : decode cX10_loadOn 52 = .ok (.getfield 156, 3) := by decide +kernel
theorem dX10_loadOn_55 : decode cX10_loadOn 55 = .ok (.invokevirtual 335, 3) := by decide +kernel
theorem dX10_loadOn_58 : decode cX10_loadOn 58 = .ok (.lstore_n 3, 1) := by decide +kernel
theorem dX10_loadOn_59 : decode cX10_loadOn 59 = .ok (.aload_n 2, 1) := by decide +kernel
theorem dX10_loadOn_60 : decode cX10_loadOn 60 = .ok (.lload_n 3, 1) := by decide +kernel
theorem dX10_loadOn_61 : decode cX10_loadOn 61 = .ok (.aload_n 0, 1) := by decide +kernel
theorem dX10_loadOn_62 : decode cX10_loadOn 62 = .ok (.getfield 33, 3) := by decide +kernel
theorem dX10_loadOn_65 : decode cX10_loadOn 65 = .ok (.getfield 168, 3) := by decide +kernel
theorem dX10_loadOn_68 : decode cX10_loadOn 68 = .ok (.aload_n 2, 1) := by decide +kernel
theorem dX10_loadOn_69 : decode cX10_loadOn 69 = .ok (.getfield 277, 3) := by decide +kernel
theorem dX10_loadOn_72 : decode cX10_loadOn 72 = .ok (.invokevirtual 339, 3) := by decide +kernel
theorem dX10_loadOn_75 : decode cX10_loadOn 75 = .ok (.l2i, 1) := by decide +kernel
theorem dX10_loadOn_76 : decode cX10_loadOn 76 = .ok (.ireturn, 1) := by decide +kernel
theorem dX10_wouldTear_0 : decode cX10_wouldTear 0 = .ok (.aload_n 0, 1) := by decide +kernel
theorem dX10_wouldTear_1 : decode cX10_wouldTear 1 = .ok (.getfield 33, 3) := by decide +kernel
theorem dX10_wouldTear_4 : decode cX10_wouldTear 4 = .ok (.iload_n 1, 1) := by decide +kernel
theorem dX10_wouldTear_5 : decode cX10_wouldTear 5 = .ok (.invokevirtual 234, 3) := by decide +kernel
theorem dX10_wouldTear_8 : decode cX10_wouldTear 8 = .ok (.ifCond .ne 13, 3) := by decide +kernel
theorem dX10_wouldTear_11 : decode cX10_wouldTear 11 = .ok (.new 238, 3) := by decide +kernel
theorem dX10_wouldTear_14 : decode cX10_wouldTear 14 = .ok (.dup, 1) := by decide +kernel
theorem dX10_wouldTear_15 : decode cX10_wouldTear 15 = .ok (.ldc 240, 2) := by decide +kernel
theorem dX10_wouldTear_17 : decode cX10_wouldTear 17 = .ok (.invokespecial 242, 3) := by decide +kernel
theorem dX10_wouldTear_20 : decode cX10_wouldTear 20 = .ok (.athrow, 1) := by decide +kernel
theorem dX10_wouldTear_21 : decode cX10_wouldTear 21 = .ok (.aload_n 0, 1) := by decide +kernel
theorem dX10_wouldTear_22 : decode cX10_wouldTear 22 = .ok (.getfield 33, 3) := by decide +kernel
theorem dX10_wouldTear_25 : decode cX10_wouldTear 25 = .ok (.iload_n 1, 1) := by decide +kernel
theorem dX10_wouldTear_26 : decode cX10_wouldTear 26 = .ok (.invokevirtual 243, 3) := by decide +kernel
theorem dX10_wouldTear_29 : decode cX10_wouldTear 29 = .ok (.astore_n 2, 1) := by decide +kernel
theorem dX10_wouldTear_30 : decode cX10_wouldTear 30 = .ok (.aload_n 2, 1) := by decide +kernel
theorem dX10_wouldTear_31 : decode cX10_wouldTear 31 = .ok (.getfield 264, 3) := by decide +kernel
theorem dX10_wouldTear_34 : decode cX10_wouldTear 34 = .ok (.iconst 1, 1) := by decide +kernel
theorem dX10_wouldTear_35 : decode cX10_wouldTear 35 = .ok (.if_icmp .eq 5, 3) := by decide +kernel
theorem dX10_wouldTear_38 : decode cX10_wouldTear 38 = .ok (.iconst 0, 1) := by decide +kernel
theorem dX10_wouldTear_39 : decode cX10_wouldTear 39 = .ok (.ireturn, 1) := by decide +kernel
theorem dX10_wouldTear_40 : decode cX10_wouldTear 40 = .ok (.aload_n 2, 1) := by decide +kernel
theorem dX10_wouldTear_41 : decode cX10_wouldTear 41 = .ok (.aload_n 0, 1) := by decide +kernel
theorem dX10_wouldTear_42 : decode cX10_wouldTear 42 = .ok (.getfield 33, 3) := by decide +kernel
theorem dX10_wouldTear_45 : decode cX10_wouldTear 45 = .ok (.invokevirtual 174, 3) := by decide +kernel
theorem dX10_wouldTear_48 : decode cX10_wouldTear 48 = .ok (.aload_n 0, 1) := by decide +kernel
theorem dX10_wouldTear_49 : decode cX10_wouldTear 49 = .ok (.getfield 33, 3) := by decide +kernel
theorem dX10_wouldTear_52 : decode cX10_wouldTear 52 = .ok (.getfield 156, 3) := by decide +kernel
theorem dX10_wouldTear_55 : decode cX10_wouldTear 55 = .ok (.invokevirtual 335, 3) := by decide +kernel
theorem dX10_wouldTear_58 : decode cX10_wouldTear 58 = .ok (.lstore_n 3, 1) := by decide +kernel
theorem dX10_wouldTear_59 : decode cX10_wouldTear 59 = .ok (.aload_n 2, 1) := by decide +kernel
theorem dX10_wouldTear_60 : decode cX10_wouldTear 60 = .ok (.lload_n 3, 1) := by decide +kernel
theorem dX10_wouldTear_61 : decode cX10_wouldTear 61 = .ok (.aload_n 0, 1) := by decide +kernel
theorem dX10_wouldTear_62 : decode cX10_wouldTear 62 = .ok (.getfield 33, 3) := by decide +kernel
theorem dX10_wouldTear_65 : decode cX10_wouldTear 65 = .ok (.getfield 168, 3) := by decide +kernel
theorem dX10_wouldTear_68 : decode cX10_wouldTear 68 = .ok (.aload_n 0, 1) := by decide +kernel
theorem dX10_wouldTear_69 : decode cX10_wouldTear 69 = .ok (.getfield 33, 3) := by decide +kernel
theorem dX10_wouldTear_72 : decode cX10_wouldTear 72 = .ok (.getfield 165, 3) := by decide +kernel
theorem dX10_wouldTear_75 : decode cX10_wouldTear 75 = .ok (.invokevirtual 343, 3) := by decide +kernel
theorem dX10_wouldTear_78 : decode cX10_wouldTear 78 = .ok (.ireturn, 1) := by decide +kernel
theorem dX10_share_0 : decode cX10_share 0 = .ok (.aload_n 0, 1) := by decide +kernel
theorem dX10_share_1 : decode cX10_share 1 = .ok (.getfield 33, 3) := by decide +kernel
theorem dX10_share_4 : decode cX10_share 4 = .ok (.bipush 10, 2) := by decide +kernel
theorem dX10_share_6 : decode cX10_share 6 = .ok (.invokevirtual 231, 3) := by decide +kernel
theorem dX10_share_9 : decode cX10_share 9 = .ok (.istore_n 1, 1) := by decide +kernel
theorem dX10_share_10 : decode cX10_share 10 = .ok (.iload_n 1, 1) := by decide +kernel
theorem dX10_share_11 : decode cX10_share 11 = .ok (.ifCond .ne 5, 3) := by decide +kernel
theorem dX10_share_14 : decode cX10_share 14 = .ok (.fconst 0, 1) := by decide +kernel
theorem dX10_share_15 : decode cX10_share 15 = .ok (.freturn, 1) := by decide +kernel
theorem dX10_share_16 : decode cX10_share 16 = .ok (.aload_n 0, 1) := by decide +kernel
theorem dX10_share_17 : decode cX10_share 17 = .ok (.getfield 33, 3) := by decide +kernel
theorem dX10_share_20 : decode cX10_share 20 = .ok (.bipush 11, 2) := by decide +kernel
theorem dX10_share_22 : decode cX10_share 22 = .ok (.invokevirtual 231, 3) := by decide +kernel
theorem dX10_share_25 : decode cX10_share 25 = .ok (.i2f, 1) := by decide +kernel
theorem dX10_share_26 : decode cX10_share 26 = .ok (.iload_n 1, 1) := by decide +kernel
theorem dX10_share_27 : decode cX10_share 27 = .ok (.i2f, 1) := by decide +kernel
theorem dX10_share_28 : decode cX10_share 28 = .ok (.fdiv, 1) := by decide +kernel
theorem dX10_share_29 : decode cX10_share 29 = .ok (.freturn, 1) := by decide +kernel
theorem dX10_meanSpeed_0 : decode cX10_meanSpeed 0 = .ok (.aload_n 0, 1) := by decide +kernel
theorem dX10_meanSpeed_1 : decode cX10_meanSpeed 1 = .ok (.getfield 33, 3) := by decide +kernel
theorem dX10_meanSpeed_4 : decode cX10_meanSpeed 4 = .ok (.getfield 171, 3) := by decide +kernel
theorem dX10_meanSpeed_7 : decode cX10_meanSpeed 7 = .ok (.ifCond .ne 5, 3) := by decide +kernel
theorem dX10_meanSpeed_10 : decode cX10_meanSpeed 10 = .ok (.dconst 0, 1) := by decide +kernel
theorem dX10_meanSpeed_11 : decode cX10_meanSpeed 11 = .ok (.dreturn, 1) := by decide +kernel
theorem dX10_meanSpeed_12 : decode cX10_meanSpeed 12 = .ok (.aload_n 0, 1) := by decide +kernel
theorem dX10_meanSpeed_13 : decode cX10_meanSpeed 13 = .ok (.getfield 33, 3) := by decide +kernel
theorem dX10_meanSpeed_16 : decode cX10_meanSpeed 16 = .ok (.getfield 225, 3) := by decide +kernel
theorem dX10_meanSpeed_19 : decode cX10_meanSpeed 19 = .ok (.i2d, 1) := by decide +kernel
theorem dX10_meanSpeed_20 : decode cX10_meanSpeed 20 = .ok (.aload_n 0, 1) := by decide +kernel
theorem dX10_meanSpeed_21 : decode cX10_meanSpeed 21 = .ok (.getfield 33, 3) := by decide +kernel
theorem dX10_meanSpeed_24 : decode cX10_meanSpeed 24 = .ok (.getfield 171, 3) := by decide +kernel
theorem dX10_meanSpeed_27 : decode cX10_meanSpeed 27 = .ok (.i2d, 1) := by decide +kernel
theorem dX10_meanSpeed_28 : decode cX10_meanSpeed 28 = .ok (.ddiv, 1) := by decide +kernel
theorem dX10_meanSpeed_29 : decode cX10_meanSpeed 29 = .ok (.dreturn, 1) := by decide +kernel
theorem dX10_landIn_0 : decode cX10_landIn 0 = .ok (.aload_n 0, 1) := by decide +kernel
theorem dX10_landIn_1 : decode cX10_landIn 1 = .ok (.invokevirtual 347, 3) := by decide +kernel
theorem dX10_landIn_4 : decode cX10_landIn 4 = .ok (.istore_n 1, 1) := by decide +kernel
theorem dX10_landIn_5 : decode cX10_landIn 5 = .ok (.aload_n 0, 1) := by decide +kernel
theorem dX10_landIn_6 : decode cX10_landIn 6 = .ok (.getfield 37, 3) := by decide +kernel
theorem dX10_landIn_9 : decode cX10_landIn 9 = .ok (.invokevirtual 350, 3) := by decide +kernel
theorem dX10_landIn_12 : decode cX10_landIn 12 = .ok (.ifCond .eq 7, 3) := by decide +kernel
theorem dX10_landIn_15 : decode cX10_landIn 15 = .ok (.iload_n 1, 1) := by decide +kernel
theorem dX10_landIn_16 : decode cX10_landIn 16 = .ok (.goto 4, 3) := by decide +kernel
theorem dX10_landIn_19 : decode cX10_landIn 19 = .ok (.iconst (-1), 1) := by decide +kernel
theorem dX10_landIn_20 : decode cX10_landIn 20 = .ok (.ireturn, 1) := by decide +kernel
theorem dX10_landAt_0 : decode cX10_landAt 0 = .ok (.aload_n 0, 1) := by decide +kernel
theorem dX10_landAt_1 : decode cX10_landAt 1 = .ok (.invokevirtual 347, 3) := by decide +kernel
theorem dX10_landAt_4 : decode cX10_landAt 4 = .ok (.pop, 1) := by decide +kernel
theorem dX10_landAt_5 : decode cX10_landAt 5 = .ok (.aload_n 0, 1) := by decide +kernel
theorem dX10_landAt_6 : decode cX10_landAt 6 = .ok (.getfield 37, 3) := by decide +kernel
theorem dX10_landAt_9 : decode cX10_landAt 9 = .ok (.invokevirtual 350, 3) := by decide +kernel
theorem dX10_landAt_12 : decode cX10_landAt 12 = .ok (.ifCond .ne 14, 3) := by decide +kernel
theorem dX10_landAt_15 : decode cX10_landAt 15 = .ok (.new 308, 3) := by decide +kernel
theorem dX10_landAt_18 : decode cX10_landAt 18 = .ok (.dup, 1) := by decide +kernel
theorem dX10_landAt_19 : decode cX10_landAt 19 = .ok (.ldc_w 353, 3) := by decide +kernel
theorem dX10_landAt_22 : decode cX10_landAt 22 = .ok (.invokespecial 312, 3) := by decide +kernel
theorem dX10_landAt_25 : decode cX10_landAt 25 = .ok (.athrow, 1) := by decide +kernel
theorem dX10_landAt_26 : decode cX10_landAt 26 = .ok (.aload_n 0, 1) := by decide +kernel
theorem dX10_landAt_27 : decode cX10_landAt 27 = .ok (.getfield 37, 3) := by decide +kernel
theorem dX10_landAt_30 : decode cX10_landAt 30 = .ok (.getfield 159, 3) := by decide +kernel
theorem dX10_landAt_33 : decode cX10_landAt 33 = .ok (.ireturn, 1) := by decide +kernel
theorem dX10_landSpeed_0 : decode cX10_landSpeed 0 = .ok (.aload_n 0, 1) := by decide +kernel
theorem dX10_landSpeed_1 : decode cX10_landSpeed 1 = .ok (.invokevirtual 347, 3) := by decide +kernel
theorem dX10_landSpeed_4 : decode cX10_landSpeed 4 = .ok (.pop, 1) := by decide +kernel
theorem dX10_landSpeed_5 : decode cX10_landSpeed 5 = .ok (.aload_n 0, 1) := by decide +kernel
theorem dX10_landSpeed_6 : decode cX10_landSpeed 6 = .ok (.getfield 37, 3) := by decide +kernel
theorem dX10_landSpeed_9 : decode cX10_landSpeed 9 = .ok (.invokevirtual 350, 3) := by decide +kernel
theorem dX10_landSpeed_12 : decode cX10_landSpeed 12 = .ok (.ifCond .eq 13, 3) := by decide +kernel
theorem dX10_landSpeed_15 : decode cX10_landSpeed 15 = .ok (.aload_n 0, 1) := by decide +kernel
theorem dX10_landSpeed_16 : decode cX10_landSpeed 16 = .ok (.getfield 37, 3) := by decide +kernel
theorem dX10_landSpeed_19 : decode cX10_landSpeed 19 = .ok (.getfield 156, 3) := by decide +kernel
theorem dX10_landSpeed_22 : decode cX10_landSpeed 22 = .ok (.goto 4, 3) := by decide +kernel
theorem dX10_landSpeed_25 : decode cX10_landSpeed 25 = .ok (.iconst (-1), 1) := by decide +kernel
theorem dX10_landSpeed_26 : decode cX10_landSpeed 26 = .ok (.ireturn, 1) := by decide +kernel
theorem dX10_landResult_0 : decode cX10_landResult 0 = .ok (.aload_n 0, 1) := by decide +kernel
theorem dX10_landResult_1 : decode cX10_landResult 1 = .ok (.invokevirtual 347, 3) := by decide +kernel
theorem dX10_landResult_4 : decode cX10_landResult 4 = .ok (.pop, 1) := by decide +kernel
theorem dX10_landResult_5 : decode cX10_landResult 5 = .ok (.aload_n 0, 1) := by decide +kernel
theorem dX10_landResult_6 : decode cX10_landResult 6 = .ok (.getfield 37, 3) := by decide +kernel
theorem dX10_landResult_9 : decode cX10_landResult 9 = .ok (.invokevirtual 350, 3) := by decide +kernel
theorem dX10_landResult_12 : decode cX10_landResult 12 = .ok (.ifCond .eq 13, 3) := by decide +kernel
theorem dX10_landResult_15 : decode cX10_landResult 15 = .ok (.aload_n 0, 1) := by decide +kernel
theorem dX10_landResult_16 : decode cX10_landResult 16 = .ok (.getfield 37, 3) := by decide +kernel
theorem dX10_landResult_19 : decode cX10_landResult 19 = .ok (.invokevirtual 177, 3) := by decide +kernel
theorem dX10_landResult_22 : decode cX10_landResult 22 = .ok (.goto 4, 3) := by decide +kernel
theorem dX10_landResult_25 : decode cX10_landResult 25 = .ok (.iconst (-1), 1) := by decide +kernel
theorem dX10_landResult_26 : decode cX10_landResult 26 = .ok (.ireturn, 1) := by decide +kernel
theorem dX10_failsIn_0 : decode cX10_failsIn 0 = .ok (.aload_n 0, 1) := by decide +kernel
theorem dX10_failsIn_1 : decode cX10_failsIn 1 = .ok (.getfield 33, 3) := by decide +kernel
theorem dX10_failsIn_4 : decode cX10_failsIn 4 = .ok (.iload_n 1, 1) := by decide +kernel
theorem dX10_failsIn_5 : decode cX10_failsIn 5 = .ok (.invokevirtual 234, 3) := by decide +kernel
theorem dX10_failsIn_8 : decode cX10_failsIn 8 = .ok (.ifCond .ne 13, 3) := by decide +kernel
theorem dX10_failsIn_11 : decode cX10_failsIn 11 = .ok (.new 238, 3) := by decide +kernel
theorem dX10_failsIn_14 : decode cX10_failsIn 14 = .ok (.dup, 1) := by decide +kernel
theorem dX10_failsIn_15 : decode cX10_failsIn 15 = .ok (.ldc 240, 2) := by decide +kernel
theorem dX10_failsIn_17 : decode cX10_failsIn 17 = .ok (.invokespecial 242, 3) := by decide +kernel
theorem dX10_failsIn_20 : decode cX10_failsIn 20 = .ok (.athrow, 1) := by decide +kernel
theorem dX10_failsIn_21 : decode cX10_failsIn 21 = .ok (.aload_n 0, 1) := by decide +kernel
theorem dX10_failsIn_22 : decode cX10_failsIn 22 = .ok (.getfield 37, 3) := by decide +kernel
theorem dX10_failsIn_25 : decode cX10_failsIn 25 = .ok (.aload_n 0, 1) := by decide +kernel
theorem dX10_failsIn_26 : decode cX10_failsIn 26 = .ok (.getfield 33, 3) := by decide +kernel
theorem dX10_failsIn_29 : decode cX10_failsIn 29 = .ok (.invokevirtual 103, 3) := by decide +kernel
theorem dX10_failsIn_32 : decode cX10_failsIn 32 = .ok (.aload_n 0, 1) := by decide +kernel
theorem dX10_failsIn_33 : decode cX10_failsIn 33 = .ok (.getfield 37, 3) := by decide +kernel
theorem dX10_failsIn_36 : decode cX10_failsIn 36 = .ok (.iload_n 1, 1) := by decide +kernel
theorem dX10_failsIn_37 : decode cX10_failsIn 37 = .ok (.invokevirtual 243, 3) := by decide +kernel
theorem dX10_failsIn_40 : decode cX10_failsIn 40 = .ok (.astore_n 2, 1) := by decide +kernel
theorem dX10_failsIn_41 : decode cX10_failsIn 41 = .ok (.iconst 0, 1) := by decide +kernel
theorem dX10_failsIn_42 : decode cX10_failsIn 42 = .ok (.istore_n 3, 1) := by decide +kernel
theorem dX10_failsIn_43 : decode cX10_failsIn 43 = .ok (.aload_n 2, 1) := by decide +kernel
theorem dX10_failsIn_44 : decode cX10_failsIn 44 = .ok (.invokevirtual 355, 3) := by decide +kernel
theorem dX10_failsIn_47 : decode cX10_failsIn 47 = .ok (.ifCond .ne 33, 3) := by decide +kernel
theorem dX10_failsIn_50 : decode cX10_failsIn 50 = .ok (.aload_n 0, 1) := by decide +kernel
theorem dX10_failsIn_51 : decode cX10_failsIn 51 = .ok (.getfield 37, 3) := by decide +kernel
