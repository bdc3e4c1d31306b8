theorem dX10_failsIn_54 : decode cX10_failsIn 54 = .ok (.invokevirtual 350, 3) := by decide +kernel
theorem dX10_failsIn_57 : decode cX10_failsIn 57 = .ok (.ifCond .ne 23, 3) := by decide +kernel
theorem dX10_failsIn_60 : decode cX10_failsIn 60 = .ok (.iload_n 3, 1) := by decide +kernel
theorem dX10_failsIn_61 : decode cX10_failsIn 61 = .ok (.sipush 3000, 3) := by decide +kernel
theorem dX10_failsIn_64 : decode cX10_failsIn 64 = .ok (.if_icmp .ge 16, 3) := by decide +kernel
theorem dX10_failsIn_67 : decode cX10_failsIn 67 = .ok (.aload_n 0, 1) := by decide +kernel
theorem dX10_failsIn_68 : decode cX10_failsIn 68 = .ok (.getfield 37, 3) := by decide +kernel
theorem dX10_failsIn_71 : decode cX10_failsIn 71 = .ok (.invokevirtual 358, 3) := by decide +kernel
theorem dX10_failsIn_74 : decode cX10_failsIn 74 = .ok (.iinc 3 1, 3) := by decide +kernel
theorem dX10_failsIn_77 : decode cX10_failsIn 77 = .ok (.goto (-34), 3) := by decide +kernel
theorem dX10_failsIn_80 : decode cX10_failsIn 80 = .ok (.aload_n 2, 1) := by decide +kernel
theorem dX10_failsIn_81 : decode cX10_failsIn 81 = .ok (.invokevirtual 355, 3) := by decide +kernel
theorem dX10_failsIn_84 : decode cX10_failsIn 84 = .ok (.ifCond .eq 7, 3) := by decide +kernel
theorem dX10_failsIn_87 : decode cX10_failsIn 87 = .ok (.iload_n 3, 1) := by decide +kernel
theorem dX10_failsIn_88 : decode cX10_failsIn 88 = .ok (.goto 4, 3) := by decide +kernel
theorem dX10_failsIn_91 : decode cX10_failsIn 91 = .ok (.iconst (-1), 1) := by decide +kernel
theorem dX10_failsIn_92 : decode cX10_failsIn 92 = .ok (.ireturn, 1) := by decide +kernel
theorem dX10_reserveIn_0 : decode cX10_reserveIn 0 = .ok (.aload_n 0, 1) := by decide +kernel
theorem dX10_reserveIn_1 : decode cX10_reserveIn 1 = .ok (.getfield 33, 3) := by decide +kernel
theorem dX10_reserveIn_4 : decode cX10_reserveIn 4 = .ok (.getfield 187, 3) := by decide +kernel
theorem dX10_reserveIn_7 : decode cX10_reserveIn 7 = .ok (.ifCond .ne 5, 3) := by decide +kernel
theorem dX10_reserveIn_10 : decode cX10_reserveIn 10 = .ok (.iconst (-1), 1) := by decide +kernel
theorem dX10_reserveIn_11 : decode cX10_reserveIn 11 = .ok (.ireturn, 1) := by decide +kernel
theorem dX10_reserveIn_12 : decode cX10_reserveIn 12 = .ok (.aload_n 0, 1) := by decide +kernel
theorem dX10_reserveIn_13 : decode cX10_reserveIn 13 = .ok (.getfield 37, 3) := by decide +kernel
theorem dX10_reserveIn_16 : decode cX10_reserveIn 16 = .ok (.aload_n 0, 1) := by decide +kernel
theorem dX10_reserveIn_17 : decode cX10_reserveIn 17 = .ok (.getfield 33, 3) := by decide +kernel
theorem dX10_reserveIn_20 : decode cX10_reserveIn 20 = .ok (.invokevirtual 103, 3) := by decide +kernel
theorem dX10_reserveIn_23 : decode cX10_reserveIn 23 = .ok (.aload_n 0, 1) := by decide +kernel
theorem dX10_reserveIn_24 : decode cX10_reserveIn 24 = .ok (.getfield 37, 3) := by decide +kernel
theorem dX10_reserveIn_27 : decode cX10_reserveIn 27 = .ok (.getfield 361, 3) := by decide +kernel
theorem dX10_reserveIn_30 : decode cX10_reserveIn 30 = .ok (.astore_n 1, 1) := by decide +kernel
theorem dX10_reserveIn_31 : decode cX10_reserveIn 31 = .ok (.iconst 0, 1) := by decide +kernel
theorem dX10_reserveIn_32 : decode cX10_reserveIn 32 = .ok (.istore_n 2, 1) := by decide +kernel
theorem dX10_reserveIn_33 : decode cX10_reserveIn 33 = .ok (.aload_n 1, 1) := by decide +kernel
theorem dX10_reserveIn_34 : decode cX10_reserveIn 34 = .ok (.getfield 264, 3) := by decide +kernel
theorem dX10_reserveIn_37 : decode cX10_reserveIn 37 = .ok (.iconst 1, 1) := by decide +kernel
theorem dX10_reserveIn_38 : decode cX10_reserveIn 38 = .ok (.if_icmp .eq 33, 3) := by decide +kernel
theorem dX10_reserveIn_41 : decode cX10_reserveIn 41 = .ok (.aload_n 0, 1) := by decide +kernel
theorem dX10_reserveIn_42 : decode cX10_reserveIn 42 = .ok (.getfield 37, 3) := by decide +kernel
theorem dX10_reserveIn_45 : decode cX10_reserveIn 45 = .ok (.invokevirtual 350, 3) := by decide +kernel
theorem dX10_reserveIn_48 : decode cX10_reserveIn 48 = .ok (.ifCond .ne 23, 3) := by decide +kernel
theorem dX10_reserveIn_51 : decode cX10_reserveIn 51 = .ok (.iload_n 2, 1) := by decide +kernel
theorem dX10_reserveIn_52 : decode cX10_reserveIn 52 = .ok (.sipush 3000, 3) := by decide +kernel
theorem dX10_reserveIn_55 : decode cX10_reserveIn 55 = .ok (.if_icmp .ge 16, 3) := by decide +kernel
theorem dX10_reserveIn_58 : decode cX10_reserveIn 58 = .ok (.aload_n 0, 1) := by decide +kernel
theorem dX10_reserveIn_59 : decode cX10_reserveIn 59 = .ok (.getfield 37, 3) := by decide +kernel
theorem dX10_reserveIn_62 : decode cX10_reserveIn 62 = .ok (.invokevirtual 358, 3) := by decide +kernel
theorem dX10_reserveIn_65 : decode cX10_reserveIn 65 = .ok (.iinc 2 1, 3) := by decide +kernel
theorem dX10_reserveIn_68 : decode cX10_reserveIn 68 = .ok (.goto (-35), 3) := by decide +kernel
theorem dX10_reserveIn_71 : decode cX10_reserveIn 71 = .ok (.aload_n 1, 1) := by decide +kernel
theorem dX10_reserveIn_72 : decode cX10_reserveIn 72 = .ok (.getfield 264, 3) := by decide +kernel
theorem dX10_reserveIn_75 : decode cX10_reserveIn 75 = .ok (.iconst 1, 1) := by decide +kernel
theorem dX10_reserveIn_76 : decode cX10_reserveIn 76 = .ok (.if_icmp .ne 7, 3) := by decide +kernel
theorem dX10_reserveIn_79 : decode cX10_reserveIn 79 = .ok (.iload_n 2, 1) := by decide +kernel
theorem dX10_reserveIn_80 : decode cX10_reserveIn 80 = .ok (.goto 4, 3) := by decide +kernel
theorem dX10_reserveIn_83 : decode cX10_reserveIn 83 = .ok (.iconst (-1), 1) := by decide +kernel
theorem dX10_reserveIn_84 : decode cX10_reserveIn 84 = .ok (.ireturn, 1) := by decide +kernel
theorem dX10_hottest_0 : decode cX10_hottest 0 = .ok (.aload_n 0, 1) := by decide +kernel
theorem dX10_hottest_1 : decode cX10_hottest 1 = .ok (.getfield 37, 3) := by decide +kernel
theorem dX10_hottest_4 : decode cX10_hottest 4 = .ok (.aload_n 0, 1) := by decide +kernel
theorem dX10_hottest_5 : decode cX10_hottest 5 = .ok (.getfield 33, 3) := by decide +kernel
theorem dX10_hottest_8 : decode cX10_hottest 8 = .ok (.invokevirtual 103, 3) := by decide +kernel
theorem dX10_hottest_11 : decode cX10_hottest 11 = .ok (.aload_n 0, 1) := by decide +kernel
theorem dX10_hottest_12 : decode cX10_hottest 12 = .ok (.getfield 37, 3) := by decide +kernel
theorem dX10_hottest_15 : decode cX10_hottest 15 = .ok (.getfield 165, 3) := by decide +kernel
theorem dX10_hottest_18 : decode cX10_hottest 18 = .ok (.istore_n 1, 1) := by decide +kernel
theorem dX10_hottest_19 : decode cX10_hottest 19 = .ok (.iconst 0, 1) := by decide +kernel
theorem dX10_hottest_20 : decode cX10_hottest 20 = .ok (.istore_n 2, 1) := by decide +kernel
theorem dX10_hottest_21 : decode cX10_hottest 21 = .ok (.iload_n 2, 1) := by decide +kernel
theorem dX10_hottest_22 : decode cX10_hottest 22 = .ok (.sipush 3000, 3) := by decide +kernel
theorem dX10_hottest_25 : decode cX10_hottest 25 = .ok (.if_icmp .ge 38, 3) := by decide +kernel
theorem dX10_hottest_28 : decode cX10_hottest 28 = .ok (.aload_n 0, 1) := by decide +kernel
theorem dX10_hottest_29 : decode cX10_hottest 29 = .ok (.getfield 37, 3) := by decide +kernel
theorem dX10_hottest_32 : decode cX10_hottest 32 = .ok (.invokevirtual 350, 3) := by decide +kernel
theorem dX10_hottest_35 : decode cX10_hottest 35 = .ok (.ifCond .ne 28, 3) := by decide +kernel
theorem dX10_hottest_38 : decode cX10_hottest 38 = .ok (.aload_n 0, 1) := by decide +kernel
theorem dX10_hottest_39 : decode cX10_hottest 39 = .ok (.getfield 37, 3) := by decide +kernel
theorem dX10_hottest_42 : decode cX10_hottest 42 = .ok (.invokevirtual 358, 3) := by decide +kernel
theorem dX10_hottest_45 : decode cX10_hottest 45 = .ok (.iload_n 1, 1) := by decide +kernel
theorem dX10_hottest_46 : decode cX10_hottest 46 = .ok (.aload_n 0, 1) := by decide +kernel
theorem dX10_hottest_47 : decode cX10_hottest 47 = .ok (.getfield 37, 3) := by decide +kernel
theorem dX10_hottest_50 : decode cX10_hottest 50 = .ok (.getfield 165, 3) := by decide +kernel
theorem dX10_hottest_53 : decode cX10_hottest 53 = .ok (.invokestatic 365, 3) := by decide +kernel
theorem dX10_hottest_56 : decode cX10_hottest 56 = .ok (.istore_n 1, 1) := by decide +kernel
theorem dX10_hottest_57 : decode cX10_hottest 57 = .ok (.iinc 2 1, 3) := by decide +kernel
theorem dX10_hottest_60 : decode cX10_hottest 60 = .ok (.goto (-39), 3) := by decide +kernel
theorem dX10_hottest_63 : decode cX10_hottest 63 = .ok (.iload_n 1, 1) := by decide +kernel
theorem dX10_hottest_64 : decode cX10_hottest 64 = .ok (.ireturn, 1) := by decide +kernel
theorem dX10_bestSlip_0 : decode cX10_bestSlip 0 = .ok (.aload_n 0, 1) := by decide +kernel
theorem dX10_bestSlip_1 : decode cX10_bestSlip 1 = .ok (.getfield 33, 3) := by decide +kernel
theorem dX10_bestSlip_4 : decode cX10_bestSlip 4 = .ok (.getfield 201, 3) := by decide +kernel
theorem dX10_bestSlip_7 : decode cX10_bestSlip 7 = .ok (.iload_n 1, 1) := by decide +kernel
theorem dX10_bestSlip_8 : decode cX10_bestSlip 8 = .ok (.invokevirtual 292, 3) := by decide +kernel
theorem dX10_bestSlip_11 : decode cX10_bestSlip 11 = .ok (.ifCond .ne 14, 3) := by decide +kernel
theorem dX10_bestSlip_14 : decode cX10_bestSlip 14 = .ok (.new 238, 3) := by decide +kernel
theorem dX10_bestSlip_17 : decode cX10_bestSlip 17 = .ok (.dup, 1) := by decide +kernel
theorem dX10_bestSlip_18 : decode cX10_bestSlip 18 = .ok (.ldc_w 295, 3) := by decide +kernel
theorem dX10_bestSlip_21 : decode cX10_bestSlip 21 = .ok (.invokespecial 242, 3) := by decide +kernel
theorem dX10_bestSlip_24 : decode cX10_bestSlip 24 = .ok (.athrow, 1) := by decide +kernel
theorem dX10_bestSlip_25 : decode cX10_bestSlip 25 = .ok (.iconst (-1), 1) := by decide +kernel
theorem dX10_bestSlip_26 : decode cX10_bestSlip 26 = .ok (.istore_n 2, 1) := by decide +kernel
theorem dX10_bestSlip_27 : decode cX10_bestSlip 27 = .ok (.iconst 0, 1) := by decide +kernel
theorem dX10_bestSlip_28 : decode cX10_bestSlip 28 = .ok (.istore_n 3, 1) := by decide +kernel
theorem dX10_bestSlip_29 : decode cX10_bestSlip 29 = .ok (.iconst 0, 1) := by decide +kernel
theorem dX10_bestSlip_30 : decode cX10_bestSlip 30 = .ok (.istore 4, 2) := by decide +kernel
theorem dX10_bestSlip_32 : decode cX10_bestSlip 32 = .ok (.iload 4, 2) := by decide +kernel
theorem dX10_bestSlip_34 : decode cX10_bestSlip 34 = .ok (.bipush 18, 2) := by decide +kernel
theorem dX10_bestSlip_36 : decode cX10_bestSlip 36 = .ok (.if_icmp .gt 88, 3) := by decide +kernel
theorem dX10_bestSlip_39 : decode cX10_bestSlip 39 = .ok (.iload 4, 2) := by decide +kernel
theorem dX10_bestSlip_41 : decode cX10_bestSlip 41 = .ok (.iconst 2, 1) := by decide +kernel
theorem dX10_bestSlip_42 : decode cX10_bestSlip 42 = .ok (.irem, 1) := by decide +kernel
theorem dX10_bestSlip_43 : decode cX10_bestSlip 43 = .ok (.ifCond .ne 10, 3) := by decide +kernel
theorem dX10_bestSlip_46 : decode cX10_bestSlip 46 = .ok (.iload 4, 2) := by decide +kernel
theorem dX10_bestSlip_48 : decode cX10_bestSlip 48 = .ok (.iconst 2, 1) := by decide +kernel
theorem dX10_bestSlip_49 : decode cX10_bestSlip 49 = .ok (.idiv, 1) := by decide +kernel
theorem dX10_bestSlip_50 : decode cX10_bestSlip 50 = .ok (.goto 10, 3) := by decide +kernel
theorem dX10_bestSlip_53 : decode cX10_bestSlip 53 = .ok (.iload 4, 2) := by decide +kernel
theorem dX10_bestSlip_55 : decode cX10_bestSlip 55 = .ok (.iconst 1, 1) := by decide +kernel
theorem dX10_bestSlip_56 : decode cX10_bestSlip 56 = .ok (.iadd, 1) := by decide +kernel
theorem dX10_bestSlip_57 : decode cX10_bestSlip 57 = .ok (.ineg, 1) := by decide +kernel
theorem dX10_bestSlip_58 : decode cX10_bestSlip 58 = .ok (.iconst 2, 1) := by decide +kernel
theorem dX10_bestSlip_59 : decode cX10_bestSlip 59 = .ok (.idiv, 1) := by decide +kernel
theorem dX10_bestSlip_60 : decode cX10_bestSlip 60 = .ok (.istore 5, 2) := by decide +kernel
theorem dX10_bestSlip_62 : decode cX10_bestSlip 62 = .ok (.aload_n 0, 1) := by decide +kernel
theorem dX10_bestSlip_63 : decode cX10_bestSlip 63 = .ok (.iload 5, 2) := by decide +kernel
theorem dX10_bestSlip_65 : decode cX10_bestSlip 65 = .ok (.invokevirtual 370, 3) := by decide +kernel
theorem dX10_bestSlip_68 : decode cX10_bestSlip 68 = .ok (.aload_n 0, 1) := by decide +kernel
theorem dX10_bestSlip_69 : decode cX10_bestSlip 69 = .ok (.getfield 33, 3) := by decide +kernel
theorem dX10_bestSlip_72 : decode cX10_bestSlip 72 = .ok (.getfield 201, 3) := by decide +kernel
theorem dX10_bestSlip_75 : decode cX10_bestSlip 75 = .ok (.iload_n 1, 1) := by decide +kernel
theorem dX10_bestSlip_76 : decode cX10_bestSlip 76 = .ok (.aload_n 0, 1) := by decide +kernel
theorem dX10_bestSlip_77 : decode cX10_bestSlip 77 = .ok (.getfield 37, 3) := by decide +kernel
theorem dX10_bestSlip_80 : decode cX10_bestSlip 80 = .ok (.getfield 159, 3) := by decide +kernel
theorem dX10_bestSlip_83 : decode cX10_bestSlip 83 = .ok (.invokevirtual 373, 3) := by decide +kernel
theorem dX10_bestSlip_86 : decode cX10_bestSlip 86 = .ok (.istore 6, 2) := by decide +kernel
theorem dX10_bestSlip_88 : decode cX10_bestSlip 88 = .ok (.aload_n 0, 1) := by decide +kernel
theorem dX10_bestSlip_89 : decode cX10_bestSlip 89 = .ok (.getfield 37, 3) := by decide +kernel
theorem dX10_bestSlip_92 : decode cX10_bestSlip 92 = .ok (.invokevirtual 350, 3) := by decide +kernel
theorem dX10_bestSlip_95 : decode cX10_bestSlip 95 = .ok (.ifCond .eq 23, 3) := by decide +kernel
theorem dX10_bestSlip_98 : decode cX10_bestSlip 98 = .ok (.iload_n 2, 1) := by decide +kernel
theorem dX10_bestSlip_99 : decode cX10_bestSlip 99 = .ok (.iconst (-1), 1) := by decide +kernel
theorem dX10_bestSlip_100 : decode cX10_bestSlip 100 = .ok (.if_icmp .eq 9, 3) := by decide +kernel
theorem dX10_bestSlip_103 : decode cX10_bestSlip 103 = .ok (.iload 6, 2) := by decide +kernel
theorem dX10_bestSlip_105 : decode cX10_bestSlip 105 = .ok (.iload_n 3, 1) := by decide +kernel
theorem dX10_bestSlip_106 : decode cX10_bestSlip 106 = .ok (.if_icmp .ge 12, 3) := by decide +kernel
theorem dX10_bestSlip_109 : decode cX10_bestSlip 109 = .ok (.iload 5, 2) := by decide +kernel
theorem dX10_bestSlip_111 : decode cX10_bestSlip 111 = .ok (.bipush 9, 2) := by decide +kernel
theorem dX10_bestSlip_113 : decode cX10_bestSlip 113 = .ok (.iadd, 1) := by decide +kernel
theorem dX10_bestSlip_114 : decode cX10_bestSlip 114 = .ok (.istore_n 2, 1) := by decide +kernel
theorem dX10_bestSlip_115 : decode cX10_bestSlip 115 = .ok (.iload 6, 2) := by decide +kernel
theorem dX10_bestSlip_117 : decode cX10_bestSlip 117 = .ok (.istore_n 3, 1) := by decide +kernel
theorem dX10_bestSlip_118 : decode cX10_bestSlip 118 = .ok (.iinc 4 1, 3) := by decide +kernel
theorem dX10_bestSlip_121 : decode cX10_bestSlip 121 = .ok (.goto (-89), 3) := by decide +kernel
theorem dX10_bestSlip_124 : decode cX10_bestSlip 124 = .ok (.iload_n 2, 1) := by decide +kernel
theorem dX10_bestSlip_125 : decode cX10_bestSlip 125 = .ok (.ireturn, 1) := by decide +kernel
theorem dX10_reachable_0 : decode cX10_reachable 0 = .ok (.iconst 0, 1) := by decide +kernel
theorem dX10_reachable_1 : decode cX10_reachable 1 = .ok (.istore_n 1, 1) := by decide +kernel
theorem dX10_reachable_2 : decode cX10_reachable 2 = .ok (.bipush (-9), 2) := by decide +kernel
theorem dX10_reachable_4 : decode cX10_reachable 4 = .ok (.istore_n 2, 1) := by decide +kernel
theorem dX10_reachable_5 : decode cX10_reachable 5 = .ok (.iload_n 2, 1) := by decide +kernel
theorem dX10_reachable_6 : decode cX10_reachable 6 = .ok (.bipush 9, 2) := by decide +kernel
theorem dX10_reachable_8 : decode cX10_reachable 8 = .ok (.if_icmp .gt 44, 3) := by decide +kernel
theorem dX10_reachable_11 : decode cX10_reachable 11 = .ok (.aload_n 0, 1) := by decide +kernel
theorem dX10_reachable_12 : decode cX10_reachable 12 = .ok (.iload_n 2, 1) := by decide +kernel
theorem dX10_reachable_13 : decode cX10_reachable 13 = .ok (.invokevirtual 370, 3) := by decide +kernel
theorem dX10_reachable_16 : decode cX10_reachable 16 = .ok (.aload_n 0, 1) := by decide +kernel
theorem dX10_reachable_17 : decode cX10_reachable 17 = .ok (.getfield 37, 3) := by decide +kernel
theorem dX10_reachable_20 : decode cX10_reachable 20 = .ok (.invokevirtual 350, 3) := by decide +kernel
theorem dX10_reachable_23 : decode cX10_reachable 23 = .ok (.ifCond .eq 23, 3) := by decide +kernel
theorem dX10_reachable_26 : decode cX10_reachable 26 = .ok (.iload_n 1, 1) := by decide +kernel
theorem dX10_reachable_27 : decode cX10_reachable 27 = .ok (.aload_n 0, 1) := by decide +kernel
theorem dX10_reachable_28 : decode cX10_reachable 28 = .ok (.getfield 33, 3) := by decide +kernel
theorem dX10_reachable_31 : decode cX10_reachable 31 = .ok (.getfield 201, 3) := by decide +kernel
theorem dX10_reachable_34 : decode cX10_reachable 34 = .ok (.aload_n 0, 1) := by decide +kernel
theorem dX10_reachable_35 : decode cX10_reachable 35 = .ok (.getfield 37, 3) := by decide +kernel
theorem dX10_reachable_38 : decode cX10_reachable 38 = .ok (.getfield 159, 3) := by decide +kernel
theorem dX10_reachable_41 : decode cX10_reachable 41 = .ok (.invokevirtual 376, 3) := by decide +kernel
theorem dX10_reachable_44 : decode cX10_reachable 44 = .ok (.ior, 1) := by decide +kernel
theorem dX10_reachable_45 : decode cX10_reachable 45 = .ok (.istore_n 1, 1) := by decide +kernel
theorem dX10_reachable_46 : decode cX10_reachable 46 = .ok (.iinc 2 1, 3) := by decide +kernel
theorem dX10_reachable_49 : decode cX10_reachable 49 = .ok (.goto (-44), 3) := by decide +kernel
theorem dX10_reachable_52 : decode cX10_reachable 52 = .ok (.iload_n 1, 1) := by decide +kernel
theorem dX10_reachable_53 : decode cX10_reachable 53 = .ok (.ireturn, 1) := by decide +kernel
theorem dX10_tick_0 : decode cX10_tick 0 = .ok (.iload_n 1, 1) := by decide +kernel
theorem dX10_tick_1 : decode cX10_tick 1 = .ok (.iconst 1, 1) := by decide +kernel
theorem dX10_tick_2 : decode cX10_tick 2 = .ok (.if_icmp .lt 10, 3) := by decide +kernel
theorem dX10_tick_5 : decode cX10_tick 5 = .ok (.iload_n 1, 1) := by decide +kernel
theorem dX10_tick_6 : decode cX10_tick 6 = .ok (.sipush 200, 3) := by decide +kernel
theorem dX10_tick_9 : decode cX10_tick 9 = .ok (.if_icmp .le 14, 3) := by decide +kernel
theorem dX10_tick_12 : decode cX10_tick 12 = .ok (.new 180, 3) := by decide +kernel
theorem dX10_tick_15 : decode cX10_tick 15 = .ok (.dup, 1) := by decide +kernel
theorem dX10_tick_16 : decode cX10_tick 16 = .ok (.ldc_w 379, 3) := by decide +kernel
theorem dX10_tick_19 : decode cX10_tick 19 = .ok (.invokespecial 184, 3) := by decide +kernel
theorem dX10_tick_22 : decode cX10_tick 22 = .ok (.athrow, 1) := by decide +kernel
theorem dX10_tick_23 : decode cX10_tick 23 = .ok (.aload_n 0, 1) := by decide +kernel
theorem dX10_tick_24 : decode cX10_tick 24 = .ok (.getfield 33, 3) := by decide +kernel
theorem dX10_tick_27 : decode cX10_tick 27 = .ok (.invokevirtual 350, 3) := by decide +kernel
theorem dX10_tick_30 : decode cX10_tick 30 = .ok (.ifCond .eq 9, 3) := by decide +kernel
theorem dX10_tick_33 : decode cX10_tick 33 = .ok (.aload_n 0, 1) := by decide +kernel
theorem dX10_tick_34 : decode cX10_tick 34 = .ok (.iconst 1, 1) := by decide +kernel
theorem dX10_tick_35 : decode cX10_tick 35 = .ok (.invokevirtual 381, 3) := by decide +kernel
theorem dX10_tick_38 : decode cX10_tick 38 = .ok (.ireturn, 1) := by decide +kernel
theorem dX10_tick_39 : decode cX10_tick 39 = .ok (.aload_n 0, 1) := by decide +kernel
theorem dX10_tick_40 : decode cX10_tick 40 = .ok (.invokevirtual 384, 3) := by decide +kernel
theorem dX10_tick_43 : decode cX10_tick 43 = .ok (.aload_n 0, 1) := by decide +kernel
theorem dX10_tick_44 : decode cX10_tick 44 = .ok (.getfield 33, 3) := by decide +kernel
theorem dX10_tick_47 : decode cX10_tick 47 = .ok (.iconst 0, 1) := by decide +kernel
theorem dX10_tick_48 : decode cX10_tick 48 = .ok (.iload_n 1, 1) := by decide +kernel
theorem dX10_tick_49 : decode cX10_tick 49 = .ok (.invokevirtual 387, 3) := by decide +kernel
theorem dX10_tick_52 : decode cX10_tick 52 = .ok (.ireturn, 1) := by decide +kernel
theorem dX10_fallTo_0 : decode cX10_fallTo 0 = .ok (.iload_n 1, 1) := by decide +kernel
theorem dX10_fallTo_1 : decode cX10_fallTo 1 = .ok (.ifCond .lt 10, 3) := by decide +kernel
theorem dX10_fallTo_4 : decode cX10_fallTo 4 = .ok (.iload_n 1, 1) := by decide +kernel
theorem dX10_fallTo_5 : decode cX10_fallTo 5 = .ok (.sipush 30000, 3) := by decide +kernel
theorem dX10_fallTo_8 : decode cX10_fallTo 8 = .ok (.if_icmp .le 14, 3) := by decide +kernel
theorem dX10_fallTo_11 : decode cX10_fallTo 11 = .ok (.new 180, 3) := by decide +kernel
theorem dX10_fallTo_14 : decode cX10_fallTo 14 = .ok (.dup, 1) := by decide +kernel
theorem dX10_fallTo_15 : decode cX10_fallTo 15 = .ok (.ldc_w 283, 3) := by decide +kernel
theorem dX10_fallTo_18 : decode cX10_fallTo 18 = .ok (.invokespecial 184, 3) := by decide +kernel
theorem dX10_fallTo_21 : decode cX10_fallTo 21 = .ok (.athrow, 1) := by decide +kernel
theorem dX10_fallTo_22 : decode cX10_fallTo 22 = .ok (.aload_n 0, 1) := by decide +kernel
theorem dX10_fallTo_23 : decode cX10_fallTo 23 = .ok (.getfield 33, 3) := by decide +kernel
theorem dX10_fallTo_26 : decode cX10_fallTo 26 = .ok (.invokevirtual 350, 3) := by decide +kernel
theorem dX10_fallTo_29 : decode cX10_fallTo 29 = .ok (.ifCond .eq 9, 3) := by decide +kernel
theorem dX10_fallTo_32 : decode cX10_fallTo 32 = .ok (.aload_n 0, 1) := by decide +kernel
theorem dX10_fallTo_33 : decode cX10_fallTo 33 = .ok (.iconst 1, 1) := by decide +kernel
theorem dX10_fallTo_34 : decode cX10_fallTo 34 = .ok (.invokevirtual 381, 3) := by decide +kernel
theorem dX10_fallTo_37 : decode cX10_fallTo 37 = .ok (.ireturn, 1) := by decide +kernel
theorem dX10_fallTo_38 : decode cX10_fallTo 38 = .ok (.aload_n 0, 1) := by decide +kernel
theorem dX10_fallTo_39 : decode cX10_fallTo 39 = .ok (.getfield 33, 3) := by decide +kernel
theorem dX10_fallTo_42 : decode cX10_fallTo 42 = .ok (.getfield 153, 3) := by decide +kernel
theorem dX10_fallTo_45 : decode cX10_fallTo 45 = .ok (.iload_n 1, 1) := by decide +kernel
theorem dX10_fallTo_46 : decode cX10_fallTo 46 = .ok (.if_icmp .gt 9, 3) := by decide +kernel
theorem dX10_fallTo_49 : decode cX10_fallTo 49 = .ok (.aload_n 0, 1) := by decide +kernel
theorem dX10_fallTo_50 : decode cX10_fallTo 50 = .ok (.iconst 2, 1) := by decide +kernel
theorem dX10_fallTo_51 : decode cX10_fallTo 51 = .ok (.invokevirtual 381, 3) := by decide +kernel
theorem dX10_fallTo_54 : decode cX10_fallTo 54 = .ok (.ireturn, 1) := by decide +kernel
theorem dX10_fallTo_55 : decode cX10_fallTo 55 = .ok (.aload_n 0, 1) := by decide +kernel
theorem dX10_fallTo_56 : decode cX10_fallTo 56 = .ok (.invokevirtual 384, 3) := by decide +kernel
theorem dX10_fallTo_59 : decode cX10_fallTo 59 = .ok (.aload_n 0, 1) := by decide +kernel
theorem dX10_fallTo_60 : decode cX10_fallTo 60 = .ok (.getfield 33, 3) := by decide +kernel
theorem dX10_fallTo_63 : decode cX10_fallTo 63 = .ok (.iload_n 1, 1) := by decide +kernel
theorem dX10_fallTo_64 : decode cX10_fallTo 64 = .ok (.sipush 3000, 3) := by decide +kernel
theorem dX10_fallTo_67 : decode cX10_fallTo 67 = .ok (.invokevirtual 387, 3) := by decide +kernel
theorem dX10_fallTo_70 : decode cX10_fallTo 70 = .ok (.ireturn, 1) := by decide +kernel
theorem dX10_open_0 : decode cX10_open 0 = .ok (.aload_n 0, 1) := by decide +kernel
theorem dX10_open_1 : decode cX10_open 1 = .ok (.getfield 33, 3) := by decide +kernel
theorem dX10_open_4 : decode cX10_open 4 = .ok (.iload_n 1, 1) := by decide +kernel
theorem dX10_open_5 : decode cX10_open 5 = .ok (.invokevirtual 324, 3) := by decide +kernel
theorem dX10_open_8 : decode cX10_open 8 = .ok (.ifCond .ne 14, 3) := by decide +kernel
theorem dX10_open_11 : decode cX10_open 11 = .ok (.new 238, 3) := by decide +kernel
theorem dX10_open_14 : decode cX10_open 14 = .ok (.dup, 1) := by decide +kernel
theorem dX10_open_15 : decode cX10_open 15 = .ok (.ldc_w 327, 3) := by decide +kernel
theorem dX10_open_18 : decode cX10_open 18 = .ok (.invokespecial 242, 3) := by decide +kernel
theorem dX10_open_21 : decode cX10_open 21 = .ok (.athrow, 1) := by decide +kernel
theorem dX10_open_22 : decode cX10_open 22 = .ok (.aload_n 0, 1) := by decide +kernel
theorem dX10_open_23 : decode cX10_open 23 = .ok (.getfield 33, 3) := by decide +kernel
theorem dX10_open_26 : decode cX10_open 26 = .ok (.invokevirtual 350, 3) := by decide +kernel
theorem dX10_open_29 : decode cX10_open 29 = .ok (.ifCond .eq 9, 3) := by decide +kernel
theorem dX10_open_32 : decode cX10_open 32 = .ok (.aload_n 0, 1) := by decide +kernel
theorem dX10_open_33 : decode cX10_open 33 = .ok (.iconst 1, 1) := by decide +kernel
theorem dX10_open_34 : decode cX10_open 34 = .ok (.invokevirtual 381, 3) := by decide +kernel
theorem dX10_open_37 : decode cX10_open 37 = .ok (.ireturn, 1) := by decide +kernel
theorem dX10_open_38 : decode cX10_open 38 = .ok (.aload_n 0, 1) := by decide +kernel
theorem dX10_open_39 : decode cX10_open 39 = .ok (.getfield 33, 3) := by decide +kernel
theorem dX10_open_42 : decode cX10_open 42 = .ok (.iload_n 1, 1) := by decide +kernel
theorem dX10_open_43 : decode cX10_open 43 = .ok (.invokevirtual 243, 3) := by decide +kernel
theorem dX10_open_46 : decode cX10_open 46 = .ok (.astore_n 2, 1) := by decide +kernel
theorem dX10_open_47 : decode cX10_open 47 = .ok (.aload_n 2, 1) := by decide +kernel
theorem dX10_open_48 : decode cX10_open 48 = .ok (.getfield 264, 3) := by decide +kernel
theorem dX10_open_51 : decode cX10_open 51 = .ok (.ifCond .eq 9, 3) := by decide +kernel
theorem dX10_open_54 : decode cX10_open 54 = .ok (.aload_n 0, 1) := by decide +kernel
theorem dX10_open_55 : decode cX10_open 55 = .ok (.iconst 3, 1) := by decide +kernel
theorem dX10_open_56 : decode cX10_open 56 = .ok (.invokevirtual 381, 3) := by decide +kernel
theorem dX10_open_59 : decode cX10_open 59 = .ok (.ireturn, 1) := by decide +kernel
theorem dX10_open_60 : decode cX10_open 60 = .ok (.aload_n 0, 1) := by decide +kernel
theorem dX10_open_61 : decode cX10_open 61 = .ok (.getfield 33, 3) := by decide +kernel
theorem dX10_open_64 : decode cX10_open 64 = .ok (.getfield 153, 3) := by decide +kernel
theorem dX10_open_67 : decode cX10_open 67 = .ok (.aload_n 2, 1) := by decide +kernel
theorem dX10_open_68 : decode cX10_open 68 = .ok (.getfield 258, 3) := by decide +kernel
theorem dX10_open_71 : decode cX10_open 71 = .ok (.if_icmp .le 9, 3) := by decide +kernel
theorem dX10_open_74 : decode cX10_open 74 = .ok (.aload_n 0, 1) := by decide +kernel
theorem dX10_open_75 : decode cX10_open 75 = .ok (.iconst 4, 1) := by decide +kernel
theorem dX10_open_76 : decode cX10_open 76 = .ok (.invokevirtual 381, 3) := by decide +kernel
theorem dX10_open_79 : decode cX10_open 79 = .ok (.ireturn, 1) := by decide +kernel
theorem dX10_open_80 : decode cX10_open 80 = .ok (.aload_n 0, 1) := by decide +kernel
theorem dX10_open_81 : decode cX10_open 81 = .ok (.getfield 33, 3) := by decide +kernel
theorem dX10_open_84 : decode cX10_open 84 = .ok (.getfield 156, 3) := by decide +kernel
theorem dX10_open_87 : decode cX10_open 87 = .ok (.aload_n 2, 1) := by decide +kernel
theorem dX10_open_88 : decode cX10_open 88 = .ok (.getfield 261, 3) := by decide +kernel
theorem dX10_open_91 : decode cX10_open 91 = .ok (.if_icmp .le 9, 3) := by decide +kernel
theorem dX10_open_94 : decode cX10_open 94 = .ok (.aload_n 0, 1) := by decide +kernel
theorem dX10_open_95 : decode cX10_open 95 = .ok (.iconst 5, 1) := by decide +kernel
theorem dX10_open_96 : decode cX10_open 96 = .ok (.invokevirtual 381, 3) := by decide +kernel
theorem dX10_open_99 : decode cX10_open 99 = .ok (.ireturn, 1) := by decide +kernel
theorem dX10_open_100 : decode cX10_open 100 = .ok (.aload_n 0, 1) := by decide +kernel
theorem dX10_open_101 : decode cX10_open 101 = .ok (.invokevirtual 384, 3) := by decide +kernel
theorem dX10_open_104 : decode cX10_open 104 = .ok (.aload_n 0, 1) := by decide +kernel
theorem dX10_open_105 : decode cX10_open 105 = .ok (.getfield 33, 3) := by decide +kernel
theorem dX10_open_108 : decode cX10_open 108 = .ok (.iload_n 1, 1) := by decide +kernel
theorem dX10_open_109 : decode cX10_open 109 = .ok (.invokevirtual 390, 3) := by decide +kernel
theorem dX10_open_112 : decode cX10_open 112 = .ok (.aload_n 2, 1) := by decide +kernel
theorem dX10_open_113 : decode cX10_open 113 = .ok (.getfield 264, 3) := by decide +kernel
theorem dX10_open_116 : decode cX10_open 116 = .ok (.ireturn, 1) := by decide +kernel
theorem dX10_openReserve_0 : decode cX10_openReserve 0 = .ok (.aload_n 0, 1) := by decide +kernel
theorem dX10_openReserve_1 : decode cX10_openReserve 1 = .ok (.getfield 33, 3) := by decide +kernel
theorem dX10_openReserve_4 : decode cX10_openReserve 4 = .ok (.invokevirtual 350, 3) := by decide +kernel
theorem dX10_openReserve_7 : decode cX10_openReserve 7 = .ok (.ifCond .eq 9, 3) := by decide +kernel
theorem dX10_openReserve_10 : decode cX10_openReserve 10 = .ok (.aload_n 0, 1) := by decide +kernel
theorem dX10_openReserve_11 : decode cX10_openReserve 11 = .ok (.iconst 1, 1) := by decide +kernel
theorem dX10_openReserve_12 : decode cX10_openReserve 12 = .ok (.invokevirtual 381, 3) := by decide +kernel
theorem dX10_openReserve_15 : decode cX10_openReserve 15 = .ok (.ireturn, 1) := by decide +kernel
theorem dX10_openReserve_16 : decode cX10_openReserve 16 = .ok (.aload_n 0, 1) := by decide +kernel
theorem dX10_openReserve_17 : decode cX10_openReserve 17 = .ok (.getfield 33, 3) := by decide +kernel
theorem dX10_openReserve_20 : decode cX10_openReserve 20 = .ok (.getfield 187, 3) := by decide +kernel
theorem dX10_openReserve_23 : decode cX10_openReserve 23 = .ok (.ifCond .eq 16, 3) := by decide +kernel
theorem dX10_openReserve_26 : decode cX10_openReserve 26 = .ok (.aload_n 0, 1) := by decide +kernel
theorem dX10_openReserve_27 : decode cX10_openReserve 27 = .ok (.getfield 33, 3) := by decide +kernel
theorem dX10_openReserve_30 : decode cX10_openReserve 30 = .ok (.getfield 361, 3) := by decide +kernel
theorem dX10_openReserve_33 : decode cX10_openReserve 33 = .ok (.getfield 264, 3) := by decide +kernel
theorem dX10_openReserve_36 : decode cX10_openReserve 36 = .ok (.ifCond .eq 9, 3) := by decide +kernel
theorem dX10_openReserve_39 : decode cX10_openReserve 39 = .ok (.aload_n 0, 1) := by decide +kernel
theorem dX10_openReserve_40 : decode cX10_openReserve 40 = .ok (.iconst 3, 1) := by decide +kernel
theorem dX10_openReserve_41 : decode cX10_openReserve 41 = .ok (.invokevirtual 381, 3) := by decide +kernel
theorem dX10_openReserve_44 : decode cX10_openReserve 44 = .ok (.ireturn, 1) := by decide +kernel
theorem dX10_openReserve_45 : decode cX10_openReserve 45 = .ok (.aload_n 0, 1) := by decide +kernel
theorem dX10_openReserve_46 : decode cX10_openReserve 46 = .ok (.getfield 33, 3) := by decide +kernel
theorem dX10_openReserve_49 : decode cX10_openReserve 49 = .ok (.getfield 153, 3) := by decide +kernel
theorem dX10_openReserve_52 : decode cX10_openReserve 52 = .ok (.aload_n 0, 1) := by decide +kernel
theorem dX10_openReserve_53 : decode cX10_openReserve 53 = .ok (.getfield 33, 3) := by decide +kernel
theorem dX10_openReserve_56 : decode cX10_openReserve 56 = .ok (.getfield 361, 3) := by decide +kernel
theorem dX10_openReserve_59 : decode cX10_openReserve 59 = .ok (.getfield 258, 3) := by decide +kernel
theorem dX10_openReserve_62 : decode cX10_openReserve 62 = .ok (.if_icmp .le 9, 3) := by decide +kernel
theorem dX10_openReserve_65 : decode cX10_openReserve 65 = .ok (.aload_n 0, 1) := by decide +kernel
theorem dX10_openReserve_66 : decode cX10_openReserve 66 = .ok (.iconst 4, 1) := by decide +kernel
theorem dX10_openReserve_67 : decode cX10_openReserve 67 = .ok (.invokevirtual 381, 3) := by decide +kernel
theorem dX10_openReserve_70 : decode cX10_openReserve 70 = .ok (.ireturn, 1) := by decide +kernel
theorem dX10_openReserve_71 : decode cX10_openReserve 71 = .ok (.aload_n 0, 1) := by decide +kernel
theorem dX10_openReserve_72 : decode cX10_openReserve 72 = .ok (.getfield 33, 3) := by decide +kernel
theorem dX10_openReserve_75 : decode cX10_openReserve 75 = .ok (.invokevirtual 214, 3) := by decide +kernel
theorem dX10_openReserve_78 : decode cX10_openReserve 78 = .ok (.istore_n 1, 1) := by decide +kernel
theorem dX10_openReserve_79 : decode cX10_openReserve 79 = .ok (.iload_n 1, 1) := by decide +kernel
theorem dX10_openReserve_80 : decode cX10_openReserve 80 = .ok (.aload_n 0, 1) := by decide +kernel
theorem dX10_openReserve_81 : decode cX10_openReserve 81 = .ok (.getfield 33, 3) := by decide +kernel
theorem dX10_openReserve_84 : decode cX10_openReserve 84 = .ok (.getfield 361, 3) := by decide +kernel
theorem dX10_openReserve_87 : decode cX10_openReserve 87 = .ok (.getfield 261, 3) := by decide +kernel
theorem dX10_openReserve_90 : decode cX10_openReserve 90 = .ok (.if_icmp .ge 10, 3) := by decide +kernel
theorem dX10_openReserve_93 : decode cX10_openReserve 93 = .ok (.aload_n 0, 1) := by decide +kernel
theorem dX10_openReserve_94 : decode cX10_openReserve 94 = .ok (.bipush 6, 2) := by decide +kernel
theorem dX10_openReserve_96 : decode cX10_openReserve 96 = .ok (.invokevirtual 381, 3) := by decide +kernel
theorem dX10_openReserve_99 : decode cX10_openReserve 99 = .ok (.ireturn, 1) := by decide +kernel
theorem dX10_openReserve_100 : decode cX10_openReserve 100 = .ok (.aload_n 0, 1) := by decide +kernel
theorem dX10_openReserve_101 : decode cX10_openReserve 101 = .ok (.getfield 33, 3) := by decide +kernel
theorem dX10_openReserve_104 : decode cX10_openReserve 104 = .ok (.invokevirtual 393, 3) := by decide +kernel
theorem dX10_openReserve_107 : decode cX10_openReserve 107 = .ok (.iconst (-1), 1) := by decide +kernel
theorem dX10_openReserve_108 : decode cX10_openReserve 108 = .ok (.if_icmp .eq 10, 3) := by decide +kernel
theorem dX10_openReserve_111 : decode cX10_openReserve 111 = .ok (.aload_n 0, 1) := by decide +kernel
theorem dX10_openReserve_112 : decode cX10_openReserve 112 = .ok (.bipush 7, 2) := by decide +kernel
theorem dX10_openReserve_114 : decode cX10_openReserve 114 = .ok (.invokevirtual 381, 3) := by decide +kernel
theorem dX10_openReserve_117 : decode cX10_openReserve 117 = .ok (.ireturn, 1) := by decide +kernel
theorem dX10_openReserve_118 : decode cX10_openReserve 118 = .ok (.aload_n 0, 1) := by decide +kernel
theorem dX10_openReserve_119 : decode cX10_openReserve 119 = .ok (.invokevirtual 384, 3) := by decide +kernel
theorem dX10_openReserve_122 : decode cX10_openReserve 122 = .ok (.aload_n 0, 1) := by decide +kernel
theorem dX10_openReserve_123 : decode cX10_openReserve 123 = .ok (.getfield 33, 3) := by decide +kernel
theorem dX10_openReserve_126 : decode cX10_openReserve 126 = .ok (.iload_n 1, 1) := by decide +kernel
theorem dX10_openReserve_127 : decode cX10_openReserve 127 = .ok (.invokevirtual 396, 3) := by decide +kernel
theorem dX10_openReserve_130 : decode cX10_openReserve 130 = .ok (.iload_n 1, 1) := by decide +kernel
theorem dX10_openReserve_131 : decode cX10_openReserve 131 = .ok (.ireturn, 1) := by decide +kernel
theorem dX10_cut_0 : decode cX10_cut 0 = .ok (.aload_n 0, 1) := by decide +kernel
theorem dX10_cut_1 : decode cX10_cut 1 = .ok (.getfield 33, 3) := by decide +kernel
theorem dX10_cut_4 : decode cX10_cut 4 = .ok (.iload_n 1, 1) := by decide +kernel
theorem dX10_cut_5 : decode cX10_cut 5 = .ok (.invokevirtual 234, 3) := by decide +kernel
theorem dX10_cut_8 : decode cX10_cut 8 = .ok (.ifCond .ne 13, 3) := by decide +kernel
theorem dX10_cut_11 : decode cX10_cut 11 = .ok (.new 238, 3) := by decide +kernel
theorem dX10_cut_14 : decode cX10_cut 14 = .ok (.dup, 1) := by decide +kernel
theorem dX10_cut_15 : decode cX10_cut 15 = .ok (.ldc 240, 2) := by decide +kernel
theorem dX10_cut_17 : decode cX10_cut 17 = .ok (.invokespecial 242, 3) := by decide +kernel
theorem dX10_cut_20 : decode cX10_cut 20 = .ok (.athrow, 1) := by decide +kernel
theorem dX10_cut_21 : decode cX10_cut 21 = .ok (.aload_n 0, 1) := by decide +kernel
theorem dX10_cut_22 : decode cX10_cut 22 = .ok (.getfield 33, 3) := by decide +kernel
theorem dX10_cut_25 : decode cX10_cut 25 = .ok (.invokevirtual 350, 3) := by decide +kernel
theorem dX10_cut_28 : decode cX10_cut 28 = .ok (.ifCond .eq 9, 3) := by decide +kernel
theorem dX10_cut_31 : decode cX10_cut 31 = .ok (.aload_n 0, 1) := by decide +kernel
theorem dX10_cut_32 : decode cX10_cut 32 = .ok (.iconst 1, 1) := by decide +kernel
theorem dX10_cut_33 : decode cX10_cut 33 = .ok (.invokevirtual 381, 3) := by decide +kernel
theorem dX10_cut_36 : decode cX10_cut 36 = .ok (.ireturn, 1) := by decide +kernel
theorem dX10_cut_37 : decode cX10_cut 37 = .ok (.aload_n 0, 1) := by decide +kernel
theorem dX10_cut_38 : decode cX10_cut 38 = .ok (.getfield 33, 3) := by decide +kernel
theorem dX10_cut_41 : decode cX10_cut 41 = .ok (.iload_n 1, 1) := by decide +kernel
theorem dX10_cut_42 : decode cX10_cut 42 = .ok (.invokevirtual 243, 3) := by decide +kernel
theorem dX10_cut_45 : decode cX10_cut 45 = .ok (.getfield 264, 3) := by decide +kernel
theorem dX10_cut_48 : decode cX10_cut 48 = .ok (.iconst 1, 1) := by decide +kernel
theorem dX10_cut_49 : decode cX10_cut 49 = .ok (.if_icmp .eq 10, 3) := by decide +kernel
theorem dX10_cut_52 : decode cX10_cut 52 = .ok (.aload_n 0, 1) := by decide +kernel
theorem dX10_cut_53 : decode cX10_cut 53 = .ok (.bipush 8, 2) := by decide +kernel
theorem dX10_cut_55 : decode cX10_cut 55 = .ok (.invokevirtual 381, 3) := by decide +kernel
theorem dX10_cut_58 : decode cX10_cut 58 = .ok (.ireturn, 1) := by decide +kernel
theorem dX10_cut_59 : decode cX10_cut 59 = .ok (.aload_n 0, 1) := by decide +kernel
theorem dX10_cut_60 : decode cX10_cut 60 = .ok (.invokevirtual 384, 3) := by decide +kernel
theorem dX10_cut_63 : decode cX10_cut 63 = .ok (.aload_n 0, 1) := by decide +kernel
theorem dX10_cut_64 : decode cX10_cut 64 = .ok (.getfield 33, 3) := by decide +kernel
theorem dX10_cut_67 : decode cX10_cut 67 = .ok (.iload_n 1, 1) := by decide +kernel
theorem dX10_cut_68 : decode cX10_cut 68 = .ok (.invokevirtual 399, 3) := by decide +kernel
theorem dX10_cut_71 : decode cX10_cut 71 = .ok (.aload_n 0, 1) := by decide +kernel
theorem dX10_cut_72 : decode cX10_cut 72 = .ok (.getfield 33, 3) := by decide +kernel
theorem dX10_cut_75 : decode cX10_cut 75 = .ok (.invokevirtual 211, 3) := by decide +kernel
theorem dX10_cut_78 : decode cX10_cut 78 = .ok (.ireturn, 1) := by decide +kernel
theorem dX10_steer_0 : decode cX10_steer 0 = .ok (.iload_n 1, 1) := by decide +kernel
theorem dX10_steer_1 : decode cX10_steer 1 = .ok (.bipush (-9), 2) := by decide +kernel
theorem dX10_steer_3 : decode cX10_steer 3 = .ok (.if_icmp .lt 9, 3) := by decide +kernel
theorem dX10_steer_6 : decode cX10_steer 6 = .ok (.iload_n 1, 1) := by decide +kernel
theorem dX10_steer_7 : decode cX10_steer 7 = .ok (.bipush 9, 2) := by decide +kernel
theorem dX10_steer_9 : decode cX10_steer 9 = .ok (.if_icmp .le 14, 3) := by decide +kernel
theorem dX10_steer_12 : decode cX10_steer 12 = .ok (.new 180, 3) := by decide +kernel
theorem dX10_steer_15 : decode cX10_steer 15 = .ok (.dup, 1) := by decide +kernel
theorem dX10_steer_16 : decode cX10_steer 16 = .ok (.ldc_w 402, 3) := by decide +kernel
theorem dX10_steer_19 : decode cX10_steer 19 = .ok (.invokespecial 184, 3) := by decide +kernel
theorem dX10_steer_22 : decode cX10_steer 22 = .ok (.athrow, 1) := by decide +kernel
theorem dX10_steer_23 : decode cX10_steer 23 = .ok (.aload_n 0, 1) := by decide +kernel
theorem dX10_steer_24 : decode cX10_steer 24 = .ok (.getfield 33, 3) := by decide +kernel
theorem dX10_steer_27 : decode cX10_steer 27 = .ok (.invokevirtual 350, 3) := by decide +kernel
theorem dX10_steer_30 : decode cX10_steer 30 = .ok (.ifCond .eq 9, 3) := by decide +kernel
theorem dX10_steer_33 : decode cX10_steer 33 = .ok (.aload_n 0, 1) := by decide +kernel
theorem dX10_steer_34 : decode cX10_steer 34 = .ok (.iconst 1, 1) := by decide +kernel
theorem dX10_steer_35 : decode cX10_steer 35 = .ok (.invokevirtual 381, 3) := by decide +kernel
theorem dX10_steer_38 : decode cX10_steer 38 = .ok (.ireturn, 1) := by decide +kernel
theorem dX10_steer_39 : decode cX10_steer 39 = .ok (.aload_n 0, 1) := by decide +kernel
theorem dX10_steer_40 : decode cX10_steer 40 = .ok (.getfield 33, 3) := by decide +kernel
theorem dX10_steer_43 : decode cX10_steer 43 = .ok (.invokevirtual 211, 3) := by decide +kernel
theorem dX10_steer_46 : decode cX10_steer 46 = .ok (.ifCond .ne 10, 3) := by decide +kernel
theorem dX10_steer_49 : decode cX10_steer 49 = .ok (.aload_n 0, 1) := by decide +kernel
theorem dX10_steer_50 : decode cX10_steer 50 = .ok (.bipush 8, 2) := by decide +kernel
theorem dX10_steer_52 : decode cX10_steer 52 = .ok (.invokevirtual 381, 3) := by decide +kernel
theorem dX10_steer_55 : decode cX10_steer 55 = .ok (.ireturn, 1) := by decide +kernel
theorem dX10_steer_56 : decode cX10_steer 56 = .ok (.aload_n 0, 1) := by decide +kernel
theorem dX10_steer_57 : decode cX10_steer 57 = .ok (.invokevirtual 384, 3) := by decide +kernel
theorem dX10_steer_60 : decode cX10_steer 60 = .ok (.aload_n 0, 1) := by decide +kernel
theorem dX10_steer_61 : decode cX10_steer 61 = .ok (.getfield 33, 3) := by decide +kernel
theorem dX10_steer_64 : decode cX10_steer 64 = .ok (.getfield 168, 3) := by decide +kernel
theorem dX10_steer_67 : decode cX10_steer 67 = .ok (.istore_n 2, 1) := by decide +kernel
theorem dX10_steer_68 : decode cX10_steer 68 = .ok (.aload_n 0, 1) := by decide +kernel
theorem dX10_steer_69 : decode cX10_steer 69 = .ok (.getfield 33, 3) := by decide +kernel
theorem dX10_steer_72 : decode cX10_steer 72 = .ok (.iload_n 1, 1) := by decide +kernel
theorem dX10_steer_73 : decode cX10_steer 73 = .ok (.putfield 168, 3) := by decide +kernel
theorem dX10_steer_76 : decode cX10_steer 76 = .ok (.iload_n 2, 1) := by decide +kernel
theorem dX10_steer_77 : decode cX10_steer 77 = .ok (.bipush 9, 2) := by decide +kernel
theorem dX10_steer_79 : decode cX10_steer 79 = .ok (.iadd, 1) := by decide +kernel
theorem dX10_steer_80 : decode cX10_steer 80 = .ok (.ireturn, 1) := by decide +kernel
theorem dX10_setTarget_0 : decode cX10_setTarget 0 = .ok (.iload_n 1, 1) := by decide +kernel
theorem dX10_setTarget_1 : decode cX10_setTarget 1 = .ok (.iconst 1, 1) := by decide +kernel
theorem dX10_setTarget_2 : decode cX10_setTarget 2 = .ok (.if_icmp .lt 10, 3) := by decide +kernel
theorem dX10_setTarget_5 : decode cX10_setTarget 5 = .ok (.iload_n 1, 1) := by decide +kernel
theorem dX10_setTarget_6 : decode cX10_setTarget 6 = .ok (.sipush 30000, 3) := by decide +kernel
theorem dX10_setTarget_9 : decode cX10_setTarget 9 = .ok (.if_icmp .le 14, 3) := by decide +kernel
theorem dX10_setTarget_12 : decode cX10_setTarget 12 = .ok (.new 180, 3) := by decide +kernel
theorem dX10_setTarget_15 : decode cX10_setTarget 15 = .ok (.dup, 1) := by decide +kernel
theorem dX10_setTarget_16 : decode cX10_setTarget 16 = .ok (.ldc_w 404, 3) := by decide +kernel
theorem dX10_setTarget_19 : decode cX10_setTarget 19 = .ok (.invokespecial 184, 3) := by decide +kernel
theorem dX10_setTarget_22 : decode cX10_setTarget 22 = .ok (.athrow, 1) := by decide +kernel
theorem dX10_setTarget_23 : decode cX10_setTarget 23 = .ok (.iload_n 2, 1) := by decide +kernel
theorem dX10_setTarget_24 : decode cX10_setTarget 24 = .ok (.iconst 1, 1) := by decide +kernel
theorem dX10_setTarget_25 : decode cX10_setTarget 25 = .ok (.if_icmp .lt 10, 3) := by decide +kernel
theorem dX10_setTarget_28 : decode cX10_setTarget 28 = .ok (.iload_n 2, 1) := by decide +kernel
theorem dX10_setTarget_29 : decode cX10_setTarget 29 = .ok (.sipush 400, 3) := by decide +kernel
theorem dX10_setTarget_32 : decode cX10_setTarget 32 = .ok (.if_icmp .le 14, 3) := by decide +kernel
theorem dX10_setTarget_35 : decode cX10_setTarget 35 = .ok (.new 180, 3) := by decide +kernel
theorem dX10_setTarget_38 : decode cX10_setTarget 38 = .ok (.dup, 1) := by decide +kernel
theorem dX10_setTarget_39 : decode cX10_setTarget 39 = .ok (.ldc_w 406, 3) := by decide +kernel
theorem dX10_setTarget_42 : decode cX10_setTarget 42 = .ok (.invokespecial 184, 3) := by decide +kernel
theorem dX10_setTarget_45 : decode cX10_setTarget 45 = .ok (.athrow, 1) := by decide +kernel
theorem dX10_setTarget_46 : decode cX10_setTarget 46 = .ok (.aload_n 0, 1) := by decide +kernel
theorem dX10_setTarget_47 : decode cX10_setTarget 47 = .ok (.getfield 33, 3) := by decide +kernel
theorem dX10_setTarget_50 : decode cX10_setTarget 50 = .ok (.getfield 191, 3) := by decide +kernel
theorem dX10_setTarget_53 : decode cX10_setTarget 53 = .ok (.iload_n 1, 1) := by decide +kernel
theorem dX10_setTarget_54 : decode cX10_setTarget 54 = .ok (.invokevirtual 408, 3) := by decide +kernel
theorem dX10_setTarget_57 : decode cX10_setTarget 57 = .ok (.ifCond .ne 10, 3) := by decide +kernel
theorem dX10_setTarget_60 : decode cX10_setTarget 60 = .ok (.aload_n 0, 1) := by decide +kernel
theorem dX10_setTarget_61 : decode cX10_setTarget 61 = .ok (.bipush 9, 2) := by decide +kernel
theorem dX10_setTarget_63 : decode cX10_setTarget 63 = .ok (.invokevirtual 381, 3) := by decide +kernel
theorem dX10_setTarget_66 : decode cX10_setTarget 66 = .ok (.ireturn, 1) := by decide +kernel
theorem dX10_setTarget_67 : decode cX10_setTarget 67 = .ok (.aload_n 0, 1) := by decide +kernel
theorem dX10_setTarget_68 : decode cX10_setTarget 68 = .ok (.invokevirtual 384, 3) := by decide +kernel
theorem dX10_setTarget_71 : decode cX10_setTarget 71 = .ok (.aload_n 0, 1) := by decide +kernel
theorem dX10_setTarget_72 : decode cX10_setTarget 72 = .ok (.getfield 33, 3) := by decide +kernel
theorem dX10_setTarget_75 : decode cX10_setTarget 75 = .ok (.getfield 191, 3) := by decide +kernel
theorem dX10_setTarget_78 : decode cX10_setTarget 78 = .ok (.iload_n 1, 1) := by decide +kernel
theorem dX10_setTarget_79 : decode cX10_setTarget 79 = .ok (.iload_n 2, 1) := by decide +kernel
theorem dX10_setTarget_80 : decode cX10_setTarget 80 = .ok (.invokevirtual 411, 3) := by decide +kernel
theorem dX10_setTarget_83 : decode cX10_setTarget 83 = .ok (.aload_n 0, 1) := by decide +kernel
theorem dX10_setTarget_84 : decode cX10_setTarget 84 = .ok (.getfield 33, 3) := by decide +kernel
theorem dX10_setTarget_87 : decode cX10_setTarget 87 = .ok (.getfield 191, 3) := by decide +kernel
theorem dX10_setTarget_90 : decode cX10_setTarget 90 = .ok (.getfield 195, 3) := by decide +kernel
theorem dX10_setTarget_93 : decode cX10_setTarget 93 = .ok (.ireturn, 1) := by decide +kernel
theorem dX10_jam_0 : decode cX10_jam 0 = .ok (.aload_n 0, 1) := by decide +kernel
theorem dX10_jam_1 : decode cX10_jam 1 = .ok (.getfield 33, 3) := by decide +kernel
theorem dX10_jam_4 : decode cX10_jam 4 = .ok (.iload_n 1, 1) := by decide +kernel
theorem dX10_jam_5 : decode cX10_jam 5 = .ok (.invokevirtual 324, 3) := by decide +kernel
theorem dX10_jam_8 : decode cX10_jam 8 = .ok (.ifCond .ne 14, 3) := by decide +kernel
theorem dX10_jam_11 : decode cX10_jam 11 = .ok (.new 238, 3) := by decide +kernel
theorem dX10_jam_14 : decode cX10_jam 14 = .ok (.dup, 1) := by decide +kernel
theorem dX10_jam_15 : decode cX10_jam 15 = .ok (.ldc_w 327, 3) := by decide +kernel
theorem dX10_jam_18 : decode cX10_jam 18 = .ok (.invokespecial 242, 3) := by decide +kernel
theorem dX10_jam_21 : decode cX10_jam 21 = .ok (.athrow, 1) := by decide +kernel
theorem dX10_jam_22 : decode cX10_jam 22 = .ok (.aload_n 0, 1) := by decide +kernel
theorem dX10_jam_23 : decode cX10_jam 23 = .ok (.getfield 33, 3) := by decide +kernel
theorem dX10_jam_26 : decode cX10_jam 26 = .ok (.iload_n 1, 1) := by decide +kernel
theorem dX10_jam_27 : decode cX10_jam 27 = .ok (.invokevirtual 243, 3) := by decide +kernel
theorem dX10_jam_30 : decode cX10_jam 30 = .ok (.astore_n 3, 1) := by decide +kernel
theorem dX10_jam_31 : decode cX10_jam 31 = .ok (.aload_n 3, 1) := by decide +kernel
theorem dX10_jam_32 : decode cX10_jam 32 = .ok (.getfield 264, 3) := by decide +kernel
theorem dX10_jam_35 : decode cX10_jam 35 = .ok (.ifCond .eq 9, 3) := by decide +kernel
theorem dX10_jam_38 : decode cX10_jam 38 = .ok (.aload_n 0, 1) := by decide +kernel
theorem dX10_jam_39 : decode cX10_jam 39 = .ok (.iconst 3, 1) := by decide +kernel
theorem dX10_jam_40 : decode cX10_jam 40 = .ok (.invokevirtual 381, 3) := by decide +kernel
theorem dX10_jam_43 : decode cX10_jam 43 = .ok (.ireturn, 1) := by decide +kernel
theorem dX10_jam_44 : decode cX10_jam 44 = .ok (.aload_n 0, 1) := by decide +kernel
theorem dX10_jam_45 : decode cX10_jam 45 = .ok (.invokevirtual 384, 3) := by decide +kernel
theorem dX10_jam_48 : decode cX10_jam 48 = .ok (.aload_n 3, 1) := by decide +kernel
theorem dX10_jam_49 : decode cX10_jam 49 = .ok (.iload_n 2, 1) := by decide +kernel
theorem dX10_jam_50 : decode cX10_jam 50 = .ok (.putfield 270, 3) := by decide +kernel
theorem dX10_jam_53 : decode cX10_jam 53 = .ok (.aload_n 0, 1) := by decide +kernel
theorem dX10_jam_54 : decode cX10_jam 54 = .ok (.getfield 33, 3) := by decide +kernel
theorem dX10_jam_57 : decode cX10_jam 57 = .ok (.invokevirtual 415, 3) := by decide +kernel
theorem dX10_jam_60 : decode cX10_jam 60 = .ok (.ireturn, 1) := by decide +kernel
theorem dX10_write_0 : decode cX10_write 0 = .ok (.aload_n 0, 1) := by decide +kernel
theorem dX10_write_1 : decode cX10_write 1 = .ok (.getfield 62, 3) := by decide +kernel
theorem dX10_write_4 : decode cX10_write 4 = .ok (.invokevirtual 418, 3) := by decide +kernel
theorem dX10_write_7 : decode cX10_write 7 = .ok (.aload_n 0, 1) := by decide +kernel
theorem dX10_write_8 : decode cX10_write 8 = .ok (.getfield 33, 3) := by decide +kernel
theorem dX10_write_11 : decode cX10_write 11 = .ok (.invokevirtual 110, 3) := by decide +kernel
theorem dX10_write_14 : decode cX10_write 14 = .ok (.istore_n 1, 1) := by decide +kernel
theorem dX10_write_15 : decode cX10_write 15 = .ok (.iconst 0, 1) := by decide +kernel
theorem dX10_write_16 : decode cX10_write 16 = .ok (.istore_n 2, 1) := by decide +kernel
theorem dX10_write_17 : decode cX10_write 17 = .ok (.iload_n 2, 1) := by decide +kernel
theorem dX10_write_18 : decode cX10_write 18 = .ok (.iload_n 1, 1) := by decide +kernel
theorem dX10_write_19 : decode cX10_write 19 = .ok (.if_icmp .ge 88, 3) := by decide +kernel
theorem dX10_write_22 : decode cX10_write 22 = .ok (.iload_n 2, 1) := by decide +kernel
theorem dX10_write_23 : decode cX10_write 23 = .ok (.ifCond .le 12, 3) := by decide +kernel
theorem dX10_write_26 : decode cX10_write 26 = .ok (.aload_n 0, 1) := by decide +kernel
theorem dX10_write_27 : decode cX10_write 27 = .ok (.getfield 62, 3) := by decide +kernel
theorem dX10_write_30 : decode cX10_write 30 = .ok (.bipush 32, 2) := by decide +kernel
theorem dX10_write_32 : decode cX10_write 32 = .ok (.invokevirtual 421, 3) := by decide +kernel
theorem dX10_write_35 : decode cX10_write 35 = .ok (.iload_n 2, 1) := by decide +kernel
theorem dX10_write_36 : decode cX10_write 36 = .ok (.aload_n 0, 1) := by decide +kernel
theorem dX10_write_37 : decode cX10_write 37 = .ok (.getfield 33, 3) := by decide +kernel
theorem dX10_write_40 : decode cX10_write 40 = .ok (.getfield 113, 3) := by decide +kernel
theorem dX10_write_43 : decode cX10_write 43 = .ok (.if_icmp .ne 12, 3) := by decide +kernel
theorem dX10_write_46 : decode cX10_write 46 = .ok (.aload_n 0, 1) := by decide +kernel
theorem dX10_write_47 : decode cX10_write 47 = .ok (.getfield 62, 3) := by decide +kernel
theorem dX10_write_50 : decode cX10_write 50 = .ok (.bipush 82, 2) := by decide +kernel
theorem dX10_write_52 : decode cX10_write 52 = .ok (.invokevirtual 421, 3) := by decide +kernel
theorem dX10_write_55 : decode cX10_write 55 = .ok (.aload_n 0, 1) := by decide +kernel
theorem dX10_write_56 : decode cX10_write 56 = .ok (.getfield 33, 3) := by decide +kernel
theorem dX10_write_59 : decode cX10_write 59 = .ok (.iload_n 2, 1) := by decide +kernel
theorem dX10_write_60 : decode cX10_write 60 = .ok (.invokevirtual 243, 3) := by decide +kernel
theorem dX10_write_63 : decode cX10_write 63 = .ok (.astore_n 3, 1) := by decide +kernel
theorem dX10_write_64 : decode cX10_write 64 = .ok (.aload_n 0, 1) := by decide +kernel
theorem dX10_write_65 : decode cX10_write 65 = .ok (.getfield 62, 3) := by decide +kernel
theorem dX10_write_68 : decode cX10_write 68 = .ok (.aload_n 3, 1) := by decide +kernel
theorem dX10_write_69 : decode cX10_write 69 = .ok (.invokevirtual 424, 3) := by decide +kernel
theorem dX10_write_72 : decode cX10_write 72 = .ok (.invokevirtual 421, 3) := by decide +kernel
theorem dX10_write_75 : decode cX10_write 75 = .ok (.aload_n 3, 1) := by decide +kernel
theorem dX10_write_76 : decode cX10_write 76 = .ok (.getfield 264, 3) := by decide +kernel
theorem dX10_write_79 : decode cX10_write 79 = .ok (.ifCond .eq 11, 3) := by decide +kernel
theorem dX10_write_82 : decode cX10_write 82 = .ok (.aload_n 3, 1) := by decide +kernel
theorem dX10_write_83 : decode cX10_write 83 = .ok (.getfield 264, 3) := by decide +kernel
theorem dX10_write_86 : decode cX10_write 86 = .ok (.iconst 1, 1) := by decide +kernel
theorem dX10_write_87 : decode cX10_write 87 = .ok (.if_icmp .ne 14, 3) := by decide +kernel
theorem dX10_write_90 : decode cX10_write 90 = .ok (.aload_n 0, 1) := by decide +kernel
theorem dX10_write_91 : decode cX10_write 91 = .ok (.getfield 62, 3) := by decide +kernel
theorem dX10_write_94 : decode cX10_write 94 = .ok (.aload_n 3, 1) := by decide +kernel
theorem dX10_write_95 : decode cX10_write 95 = .ok (.invokevirtual 267, 3) := by decide +kernel
theorem dX10_write_98 : decode cX10_write 98 = .ok (.invokevirtual 428, 3) := by decide +kernel
theorem dX10_write_101 : decode cX10_write 101 = .ok (.iinc 2 1, 3) := by decide +kernel
theorem dX10_write_104 : decode cX10_write 104 = .ok (.goto (-87), 3) := by decide +kernel
theorem dX10_write_107 : decode cX10_write 107 = .ok (.aload_n 0, 1) := by decide +kernel
theorem dX10_write_108 : decode cX10_write 108 = .ok (.getfield 62, 3) := by decide +kernel
theorem dX10_write_111 : decode cX10_write 111 = .ok (.getfield 431, 3) := by decide +kernel
theorem dX10_write_114 : decode cX10_write 114 = .ok (.ireturn, 1) := by decide +kernel
theorem dX10_output_0 : decode cX10_output 0 = .ok (.iload_n 1, 1) := by decide +kernel
theorem dX10_output_1 : decode cX10_output 1 = .ok (.ifCond .lt 14, 3) := by decide +kernel
theorem dX10_output_4 : decode cX10_output 4 = .ok (.iload_n 1, 1) := by decide +kernel
theorem dX10_output_5 : decode cX10_output 5 = .ok (.aload_n 0, 1) := by decide +kernel
theorem dX10_output_6 : decode cX10_output 6 = .ok (.getfield 62, 3) := by decide +kernel
theorem dX10_output_9 : decode cX10_output 9 = .ok (.getfield 431, 3) := by decide +kernel
theorem dX10_output_12 : decode cX10_output 12 = .ok (.if_icmp .lt 14, 3) := by decide +kernel
theorem dX10_output_15 : decode cX10_output 15 = .ok (.new 238, 3) := by decide +kernel
theorem dX10_output_18 : decode cX10_output 18 = .ok (.dup, 1) := by decide +kernel
theorem dX10_output_19 : decode cX10_output 19 = .ok (.ldc_w 432, 3) := by decide +kernel
theorem dX10_output_22 : decode cX10_output 22 = .ok (.invokespecial 242, 3) := by decide +kernel
theorem dX10_output_25 : decode cX10_output 25 = .ok (.athrow, 1) := by decide +kernel
theorem dX10_output_26 : decode cX10_output 26 = .ok (.aload_n 0, 1) := by decide +kernel
theorem dX10_output_27 : decode cX10_output 27 = .ok (.getfield 62, 3) := by decide +kernel
theorem dX10_output_30 : decode cX10_output 30 = .ok (.getfield 434, 3) := by decide +kernel
theorem dX10_output_33 : decode cX10_output 33 = .ok (.iload_n 1, 1) := by decide +kernel
theorem dX10_output_34 : decode cX10_output 34 = .ok (.iaload, 1) := by decide +kernel
theorem dX10_output_35 : decode cX10_output 35 = .ok (.ireturn, 1) := by decide +kernel
theorem dX10_undo_0 : decode cX10_undo 0 = .ok (.aload_n 0, 1) := by decide +kernel
theorem dX10_undo_1 : decode cX10_undo 1 = .ok (.getfield 43, 3) := by decide +kernel
theorem dX10_undo_4 : decode cX10_undo 4 = .ok (.getfield 224, 3) := by decide +kernel
theorem dX10_undo_7 : decode cX10_undo 7 = .ok (.ifCond .ne 14, 3) := by decide +kernel
theorem dX10_undo_10 : decode cX10_undo 10 = .ok (.new 78, 3) := by decide +kernel
theorem dX10_undo_13 : decode cX10_undo 13 = .ok (.dup, 1) := by decide +kernel
theorem dX10_undo_14 : decode cX10_undo 14 = .ok (.ldc_w 437, 3) := by decide +kernel
theorem dX10_undo_17 : decode cX10_undo 17 = .ok (.invokespecial 82, 3) := by decide +kernel
theorem dX10_undo_20 : decode cX10_undo 20 = .ok (.athrow, 1) := by decide +kernel
theorem dX10_undo_21 : decode cX10_undo 21 = .ok (.aload_n 0, 1) := by decide +kernel
theorem dX10_undo_22 : decode cX10_undo 22 = .ok (.getfield 43, 3) := by decide +kernel
theorem dX10_undo_25 : decode cX10_undo 25 = .ok (.aload_n 0, 1) := by decide +kernel
theorem dX10_undo_26 : decode cX10_undo 26 = .ok (.getfield 33, 3) := by decide +kernel
theorem dX10_undo_29 : decode cX10_undo 29 = .ok (.invokevirtual 439, 3) := by decide +kernel
theorem dX10_undo_32 : decode cX10_undo 32 = .ok (.aload_n 0, 1) := by decide +kernel
theorem dX10_undo_33 : decode cX10_undo 33 = .ok (.getfield 43, 3) := by decide +kernel
theorem dX10_undo_36 : decode cX10_undo 36 = .ok (.getfield 224, 3) := by decide +kernel
theorem dX10_undo_39 : decode cX10_undo 39 = .ok (.ireturn, 1) := by decide +kernel
theorem dX10_save_0 : decode cX10_save 0 = .ok (.iload_n 1, 1) := by decide +kernel
theorem dX10_save_1 : decode cX10_save 1 = .ok (.ifCond .lt 8, 3) := by decide +kernel
theorem dX10_save_4 : decode cX10_save 4 = .ok (.iload_n 1, 1) := by decide +kernel
theorem dX10_save_5 : decode cX10_save 5 = .ok (.iconst 2, 1) := by decide +kernel
theorem dX10_save_6 : decode cX10_save 6 = .ok (.if_icmp .lt 14, 3) := by decide +kernel
theorem dX10_save_9 : decode cX10_save 9 = .ok (.new 238, 3) := by decide +kernel
theorem dX10_save_12 : decode cX10_save 12 = .ok (.dup, 1) := by decide +kernel
theorem dX10_save_13 : decode cX10_save 13 = .ok (.ldc_w 442, 3) := by decide +kernel
theorem dX10_save_16 : decode cX10_save 16 = .ok (.invokespecial 242, 3) := by decide +kernel
theorem dX10_save_19 : decode cX10_save 19 = .ok (.athrow, 1) := by decide +kernel
theorem dX10_save_20 : decode cX10_save 20 = .ok (.aload_n 0, 1) := by decide +kernel
theorem dX10_save_21 : decode cX10_save 21 = .ok (.getfield 47, 3) := by decide +kernel
theorem dX10_save_24 : decode cX10_save 24 = .ok (.iload_n 1, 1) := by decide +kernel
theorem dX10_save_25 : decode cX10_save 25 = .ok (.aaload, 1) := by decide +kernel
theorem dX10_save_26 : decode cX10_save 26 = .ok (.aload_n 0, 1) := by decide +kernel
theorem dX10_save_27 : decode cX10_save 27 = .ok (.getfield 33, 3) := by decide +kernel
theorem dX10_save_30 : decode cX10_save 30 = .ok (.invokevirtual 103, 3) := by decide +kernel
theorem dX10_save_33 : decode cX10_save 33 = .ok (.aload_n 0, 1) := by decide +kernel
theorem dX10_save_34 : decode cX10_save 34 = .ok (.getfield 51, 3) := by decide +kernel
theorem dX10_save_37 : decode cX10_save 37 = .ok (.iload_n 1, 1) := by decide +kernel
theorem dX10_save_38 : decode cX10_save 38 = .ok (.iconst 1, 1) := by decide +kernel
theorem dX10_save_39 : decode cX10_save 39 = .ok (.bastore, 1) := by decide +kernel
theorem dX10_save_40 : decode cX10_save 40 = .ok (.aload_n 0, 1) := by decide +kernel
theorem dX10_save_41 : decode cX10_save 41 = .ok (.getfield 33, 3) := by decide +kernel
theorem dX10_save_44 : decode cX10_save 44 = .ok (.getfield 171, 3) := by decide +kernel
theorem dX10_save_47 : decode cX10_save 47 = .ok (.ireturn, 1) := by decide +kernel
theorem dX10_restore_0 : decode cX10_restore 0 = .ok (.iload_n 1, 1) := by decide +kernel
theorem dX10_restore_1 : decode cX10_restore 1 = .ok (.ifCond .lt 8, 3) := by decide +kernel
theorem dX10_restore_4 : decode cX10_restore 4 = .ok (.iload_n 1, 1) := by decide +kernel
theorem dX10_restore_5 : decode cX10_restore 5 = .ok (.iconst 2, 1) := by decide +kernel
theorem dX10_restore_6 : decode cX10_restore 6 = .ok (.if_icmp .lt 14, 3) := by decide +kernel
theorem dX10_restore_9 : decode cX10_restore 9 = .ok (.new 238, 3) := by decide +kernel
theorem dX10_restore_12 : decode cX10_restore 12 = .ok (.dup, 1) := by decide +kernel
theorem dX10_restore_13 : decode cX10_restore 13 = .ok (.ldc_w 442, 3) := by decide +kernel
theorem dX10_restore_16 : decode cX10_restore 16 = .ok (.invokespecial 242, 3) := by decide +kernel
theorem dX10_restore_19 : decode cX10_restore 19 = .ok (.athrow, 1) := by decide +kernel
theorem dX10_restore_20 : decode cX10_restore 20 = .ok (.aload_n 0, 1) := by decide +kernel
theorem dX10_restore_21 : decode cX10_restore 21 = .ok (.getfield 51, 3) := by decide +kernel
theorem dX10_restore_24 : decode cX10_restore 24 = .ok (.iload_n 1, 1) := by decide +kernel
theorem dX10_restore_25 : decode cX10_restore 25 = .ok (.baload, 1) := by decide +kernel
theorem dX10_restore_26 : decode cX10_restore 26 = .ok (.ifCond .ne 14, 3) := by decide +kernel
theorem dX10_restore_29 : decode cX10_restore 29 = .ok (.new 78, 3) := by decide +kernel
theorem dX10_restore_32 : decode cX10_restore 32 = .ok (.dup, 1) := by decide +kernel
theorem dX10_restore_33 : decode cX10_restore 33 = .ok (.ldc_w 444, 3) := by decide +kernel
theorem dX10_restore_36 : decode cX10_restore 36 = .ok (.invokespecial 82, 3) := by decide +kernel
theorem dX10_restore_39 : decode cX10_restore 39 = .ok (.athrow, 1) := by decide +kernel
theorem dX10_restore_40 : decode cX10_restore 40 = .ok (.aload_n 0, 1) := by decide +kernel
theorem dX10_restore_41 : decode cX10_restore 41 = .ok (.getfield 33, 3) := by decide +kernel
theorem dX10_restore_44 : decode cX10_restore 44 = .ok (.aload_n 0, 1) := by decide +kernel
theorem dX10_restore_45 : decode cX10_restore 45 = .ok (.getfield 47, 3) := by decide +kernel
theorem dX10_restore_48 : decode cX10_restore 48 = .ok (.iload_n 1, 1) := by decide +kernel
theorem dX10_restore_49 : decode cX10_restore 49 = .ok (.aaload, 1) := by decide +kernel
theorem dX10_restore_50 : decode cX10_restore 50 = .ok (.invokevirtual 103, 3) := by decide +kernel
theorem dX10_restore_53 : decode cX10_restore 53 = .ok (.aload_n 0, 1) := by decide +kernel
theorem dX10_restore_54 : decode cX10_restore 54 = .ok (.getfield 43, 3) := by decide +kernel
theorem dX10_restore_57 : decode cX10_restore 57 = .ok (.invokevirtual 107, 3) := by decide +kernel
theorem dX10_restore_60 : decode cX10_restore 60 = .ok (.aload_n 0, 1) := by decide +kernel
theorem dX10_restore_61 : decode cX10_restore 61 = .ok (.getfield 33, 3) := by decide +kernel
theorem dX10_restore_64 : decode cX10_restore 64 = .ok (.getfield 171, 3) := by decide +kernel
theorem dX10_restore_67 : decode cX10_restore 67 = .ok (.ireturn, 1) := by decide +kernel
theorem dX10_refuse_0 : decode cX10_refuse 0 = .ok (.aload_n 0, 1) := by decide +kernel
theorem dX10_refuse_1 : decode cX10_refuse 1 = .ok (.getfield 55, 3) := by decide +kernel
theorem dX10_refuse_4 : decode cX10_refuse 4 = .ok (.iload_n 1, 1) := by decide +kernel
theorem dX10_refuse_5 : decode cX10_refuse 5 = .ok (.dup2, 1) := by decide +kernel
theorem dX10_refuse_6 : decode cX10_refuse 6 = .ok (.iaload, 1) := by decide +kernel
theorem dX10_refuse_7 : decode cX10_refuse 7 = .ok (.iconst 1, 1) := by decide +kernel
theorem dX10_refuse_8 : decode cX10_refuse 8 = .ok (.iadd, 1) := by decide +kernel
theorem dX10_refuse_9 : decode cX10_refuse 9 = .ok (.iastore, 1) := by decide +kernel
theorem dX10_refuse_10 : decode cX10_refuse 10 = .ok (.iload_n 1, 1) := by decide +kernel
theorem dX10_refuse_11 : decode cX10_refuse 11 = .ok (.ineg, 1) := by decide +kernel
theorem dX10_refuse_12 : decode cX10_refuse 12 = .ok (.ireturn, 1) := by decide +kernel
theorem dX10_beginAct_0 : decode cX10_beginAct 0 = .ok (.aload_n 0, 1) := by decide +kernel
theorem dX10_beginAct_1 : decode cX10_beginAct 1 = .ok (.getfield 55, 3) := by decide +kernel
theorem dX10_beginAct_4 : decode cX10_beginAct 4 = .ok (.iconst 0, 1) := by decide +kernel
theorem dX10_beginAct_5 : decode cX10_beginAct 5 = .ok (.dup2, 1) := by decide +kernel
theorem dX10_beginAct_6 : decode cX10_beginAct 6 = .ok (.iaload, 1) := by decide +kernel
theorem dX10_beginAct_7 : decode cX10_beginAct 7 = .ok (.iconst 1, 1) := by decide +kernel
theorem dX10_beginAct_8 : decode cX10_beginAct 8 = .ok (.iadd, 1) := by decide +kernel
theorem dX10_beginAct_9 : decode cX10_beginAct 9 = .ok (.iastore, 1) := by decide +kernel
theorem dX10_beginAct_10 : decode cX10_beginAct 10 = .ok (.aload_n 0, 1) := by decide +kernel
theorem dX10_beginAct_11 : decode cX10_beginAct 11 = .ok (.getfield 43, 3) := by decide +kernel
theorem dX10_beginAct_14 : decode cX10_beginAct 14 = .ok (.aload_n 0, 1) := by decide +kernel
theorem dX10_beginAct_15 : decode cX10_beginAct 15 = .ok (.getfield 33, 3) := by decide +kernel
theorem dX10_beginAct_18 : decode cX10_beginAct 18 = .ok (.invokevirtual 446, 3) := by decide +kernel
theorem dX10_beginAct_21 : decode cX10_beginAct 21 = .ok (.return_, 1) := by decide +kernel
theorem dX10_foretellLanding_0 : decode cX10_foretellLanding 0 = .ok (.aload_n 0, 1) := by decide +kernel
theorem dX10_foretellLanding_1 : decode cX10_foretellLanding 1 = .ok (.getfield 37, 3) := by decide +kernel
theorem dX10_foretellLanding_4 : decode cX10_foretellLanding 4 = .ok (.aload_n 0, 1) := by decide +kernel
theorem dX10_foretellLanding_5 : decode cX10_foretellLanding 5 = .ok (.getfield 33, 3) := by decide +kernel
theorem dX10_foretellLanding_8 : decode cX10_foretellLanding 8 = .ok (.invokevirtual 103, 3) := by decide +kernel
theorem dX10_foretellLanding_11 : decode cX10_foretellLanding 11 = .ok (.aload_n 0, 1) := by decide +kernel
theorem dX10_foretellLanding_12 : decode cX10_foretellLanding 12 = .ok (.getfield 37, 3) := by decide +kernel
theorem dX10_foretellLanding_15 : decode cX10_foretellLanding 15 = .ok (.iconst 0, 1) := by decide +kernel
theorem dX10_foretellLanding_16 : decode cX10_foretellLanding 16 = .ok (.sipush 3000, 3) := by decide +kernel
theorem dX10_foretellLanding_19 : decode cX10_foretellLanding 19 = .ok (.invokevirtual 387, 3) := by decide +kernel
theorem dX10_foretellLanding_22 : decode cX10_foretellLanding 22 = .ok (.ireturn, 1) := by decide +kernel
theorem dX10_foretellLandingWithSlip_0 : decode cX10_foretellLandingWithSlip 0 = .ok (.aload_n 0, 1) := by decide +kernel
theorem dX10_foretellLandingWithSlip_1 : decode cX10_foretellLandingWithSlip 1 = .ok (.getfield 37, 3) := by decide +kernel
theorem dX10_foretellLandingWithSlip_4 : decode cX10_foretellLandingWithSlip 4 = .ok (.aload_n 0, 1) := by decide +kernel
theorem dX10_foretellLandingWithSlip_5 : decode cX10_foretellLandingWithSlip 5 = .ok (.getfield 33, 3) := by decide +kernel
theorem dX10_foretellLandingWithSlip_8 : decode cX10_foretellLandingWithSlip 8 = .ok (.invokevirtual 103, 3) := by decide +kernel
theorem dX10_foretellLandingWithSlip_11 : decode cX10_foretellLandingWithSlip 11 = .ok (.aload_n 0, 1) := by decide +kernel
theorem dX10_foretellLandingWithSlip_12 : decode cX10_foretellLandingWithSlip 12 = .ok (.getfield 37, 3) := by decide +kernel
theorem dX10_foretellLandingWithSlip_15 : decode cX10_foretellLandingWithSlip 15 = .ok (.iload_n 1, 1) := by decide +kernel
theorem dX10_foretellLandingWithSlip_16 : decode cX10_foretellLandingWithSlip 16 = .ok (.putfield 168, 3) := by decide +kernel
theorem dX10_foretellLandingWithSlip_19 : decode cX10_foretellLandingWithSlip 19 = .ok (.aload_n 0, 1) := by decide +kernel
theorem dX10_foretellLandingWithSlip_20 : decode cX10_foretellLandingWithSlip 20 = .ok (.getfield 37, 3) := by decide +kernel
theorem dX10_foretellLandingWithSlip_23 : decode cX10_foretellLandingWithSlip 23 = .ok (.iconst 0, 1) := by decide +kernel
theorem dX10_foretellLandingWithSlip_24 : decode cX10_foretellLandingWithSlip 24 = .ok (.sipush 3000, 3) := by decide +kernel
theorem dX10_foretellLandingWithSlip_27 : decode cX10_foretellLandingWithSlip 27 = .ok (.invokevirtual 387, 3) := by decide +kernel
theorem dX10_foretellLandingWithSlip_30 : decode cX10_foretellLandingWithSlip 30 = .ok (.pop, 1) := by decide +kernel
theorem dX10_foretellLandingWithSlip_31 : decode cX10_foretellLandingWithSlip 31 = .ok (.return_, 1) := by decide +kernel
theorem dX11_init_0 : decode cX11_init 0 = .ok (.aload_n 0, 1) := by decide +kernel
theorem dX11_init_1 : decode cX11_init 1 = .ok (.invokespecial 1, 3) := by decide +kernel
theorem dX11_init_4 : decode cX11_init 4 = .ok (.aload_n 0, 1) := by decide +kernel
theorem dX11_init_5 : decode cX11_init 5 = .ok (.sipush 268, 3) := by decide +kernel
theorem dX11_init_8 : decode cX11_init 8 = .ok (.newarray .int, 2) := by decide +kernel
theorem dX11_init_10 : decode cX11_init 10 = .ok (.putfield 7, 3) := by decide +kernel
theorem dX11_init_13 : decode cX11_init 13 = .ok (.aload_n 0, 1) := by decide +kernel
theorem dX11_init_14 : decode cX11_init 14 = .ok (.sipush 268, 3) := by decide +kernel
theorem dX11_init_17 : decode cX11_init 17 = .ok (.newarray .int, 2) := by decide +kernel
theorem dX11_init_19 : decode cX11_init 19 = .ok (.putfield 13, 3) := by decide +kernel
theorem dX11_init_22 : decode cX11_init 22 = .ok (.aload_n 0, 1) := by decide +kernel
theorem dX11_init_23 : decode cX11_init 23 = .ok (.sipush 268, 3) := by decide +kernel
theorem dX11_init_26 : decode cX11_init 26 = .ok (.newarray .int, 2) := by decide +kernel
theorem dX11_init_28 : decode cX11_init 28 = .ok (.putfield 16, 3) := by decide +kernel
theorem dX11_init_31 : decode cX11_init 31 = .ok (.aload_n 0, 1) := by decide +kernel
theorem dX11_init_32 : decode cX11_init 32 = .ok (.sipush 2144, 3) := by decide +kernel
theorem dX11_init_35 : decode cX11_init 35 = .ok (.newarray .int, 2) := by decide +kernel
theorem dX11_init_37 : decode cX11_init 37 = .ok (.putfield 19, 3) := by decide +kernel
theorem dX11_init_40 : decode cX11_init 40 = .ok (.aload_n 0, 1) := by decide +kernel
theorem dX11_init_41 : decode cX11_init 41 = .ok (.sipush 536, 3) := by decide +kernel
theorem dX11_init_44 : decode cX11_init 44 = .ok (.newarray .int, 2) := by decide +kernel
theorem dX11_init_46 : decode cX11_init 46 = .ok (.putfield 22, 3) := by decide +kernel
theorem dX11_init_49 : decode cX11_init 49 = .ok (.aload_n 0, 1) := by decide +kernel
theorem dX11_init_50 : decode cX11_init 50 = .ok (.iconst 2, 1) := by decide +kernel
theorem dX11_init_51 : decode cX11_init 51 = .ok (.newarray .boolean, 2) := by decide +kernel
theorem dX11_init_53 : decode cX11_init 53 = .ok (.putfield 25, 3) := by decide +kernel
theorem dX11_init_56 : decode cX11_init 56 = .ok (.aload_n 0, 1) := by decide +kernel
theorem dX11_init_57 : decode cX11_init 57 = .ok (.bipush 10, 2) := by decide +kernel
theorem dX11_init_59 : decode cX11_init 59 = .ok (.newarray .int, 2) := by decide +kernel
theorem dX11_init_61 : decode cX11_init 61 = .ok (.putfield 29, 3) := by decide +kernel
theorem dX11_init_64 : decode cX11_init 64 = .ok (.aload_n 0, 1) := by decide +kernel
theorem dX11_init_65 : decode cX11_init 65 = .ok (.sipush 600, 3) := by decide +kernel
theorem dX11_init_68 : decode cX11_init 68 = .ok (.newarray .byte, 2) := by decide +kernel
theorem dX11_init_70 : decode cX11_init 70 = .ok (.putfield 32, 3) := by decide +kernel
theorem dX11_init_73 : decode cX11_init 73 = .ok (.aload_n 0, 1) := by decide +kernel
theorem dX11_init_74 : decode cX11_init 74 = .ok (.iconst (-1), 1) := by decide +kernel
theorem dX11_init_75 : decode cX11_init 75 = .ok (.putfield 36, 3) := by decide +kernel
theorem dX11_init_78 : decode cX11_init 78 = .ok (.aload_n 0, 1) := by decide +kernel
theorem dX11_init_79 : decode cX11_init 79 = .ok (.bipush 80, 2) := by decide +kernel
theorem dX11_init_81 : decode cX11_init 81 = .ok (.newarray .int, 2) := by decide +kernel
theorem dX11_init_83 : decode cX11_init 83 = .ok (.putfield 40, 3) := by decide +kernel
theorem dX11_init_86 : decode cX11_init 86 = .ok (.aload_n 0, 1) := by decide +kernel
theorem dX11_init_87 : decode cX11_init 87 = .ok (.bipush 60, 2) := by decide +kernel
theorem dX11_init_89 : decode cX11_init 89 = .ok (.newarray .int, 2) := by decide +kernel
theorem dX11_init_91 : decode cX11_init 91 = .ok (.putfield 43, 3) := by decide +kernel
theorem dX11_init_94 : decode cX11_init 94 = .ok (.aload_n 0, 1) := by decide +kernel
theorem dX11_init_95 : decode cX11_init 95 = .ok (.getfield 7, 3) := by decide +kernel
theorem dX11_init_98 : decode cX11_init 98 = .ok (.invokestatic 46, 3) := by decide +kernel
theorem dX11_init_101 : decode cX11_init 101 = .ok (.aload_n 0, 1) := by decide +kernel
theorem dX11_init_102 : decode cX11_init 102 = .ok (.getfield 7, 3) := by decide +kernel
theorem dX11_init_105 : decode cX11_init 105 = .ok (.iconst 0, 1) := by decide +kernel
theorem dX11_init_106 : decode cX11_init 106 = .ok (.sipush 3000, 3) := by decide +kernel
theorem dX11_init_109 : decode cX11_init 109 = .ok (.iastore, 1) := by decide +kernel
theorem dX11_init_110 : decode cX11_init 110 = .ok (.aload_n 0, 1) := by decide +kernel
theorem dX11_init_111 : decode cX11_init 111 = .ok (.getfield 7, 3) := by decide +kernel
theorem dX11_init_114 : decode cX11_init 114 = .ok (.iconst 1, 1) := by decide +kernel
theorem dX11_init_115 : decode cX11_init 115 = .ok (.bipush 100, 2) := by decide +kernel
theorem dX11_init_117 : decode cX11_init 117 = .ok (.iastore, 1) := by decide +kernel
theorem dX11_init_118 : decode cX11_init 118 = .ok (.aload_n 0, 1) := by decide +kernel
theorem dX11_init_119 : decode cX11_init 119 = .ok (.getfield 7, 3) := by decide +kernel
theorem dX11_init_122 : decode cX11_init 122 = .ok (.iconst 3, 1) := by decide +kernel
theorem dX11_init_123 : decode cX11_init 123 = .ok (.bipush 10, 2) := by decide +kernel
theorem dX11_init_125 : decode cX11_init 125 = .ok (.iastore, 1) := by decide +kernel
theorem dX11_init_126 : decode cX11_init 126 = .ok (.return_, 1) := by decide +kernel
theorem dX11_thrown_0 : decode cX11_thrown 0 = .ok (.aload_n 0, 1) := by decide +kernel
theorem dX11_thrown_1 : decode cX11_thrown 1 = .ok (.getfield 50, 3) := by decide +kernel
theorem dX11_thrown_4 : decode cX11_thrown 4 = .ok (.ireturn, 1) := by decide +kernel
theorem dX11_empties_0 : decode cX11_empties 0 = .ok (.iconst 0, 1) := by decide +kernel
theorem dX11_empties_1 : decode cX11_empties 1 = .ok (.istore_n 1, 1) := by decide +kernel
theorem dX11_empties_2 : decode cX11_empties 2 = .ok (.iload_n 1, 1) := by decide +kernel
theorem dX11_empties_3 : decode cX11_empties 3 = .ok (.sipush 268, 3) := by decide +kernel
theorem dX11_empties_6 : decode cX11_empties 6 = .ok (.if_icmp .ge 13, 3) := by decide +kernel
theorem dX11_empties_9 : decode cX11_empties 9 = .ok (.aload_n 0, 1) := by decide +kernel
theorem dX11_empties_10 : decode cX11_empties 10 = .ok (.iload_n 1, 1) := by decide +kernel
theorem dX11_empties_11 : decode cX11_empties 11 = .ok (.iconst 0, 1) := by decide +kernel
theorem dX11_empties_12 : decode cX11_empties 12 = .ok (.iastore, 1) := by decide +kernel
theorem dX11_empties_13 : decode cX11_empties 13 = .ok (.iinc 1 1, 3) := by decide +kernel
theorem dX11_empties_16 : decode cX11_empties 16 = .ok (.goto (-14), 3) := by decide +kernel
theorem dX11_empties_19 : decode cX11_empties 19 = .ok (.aload_n 0, 1) := by decide +kernel
theorem dX11_empties_20 : decode cX11_empties 20 = .ok (.bipush 7, 2) := by decide +kernel
theorem dX11_empties_22 : decode cX11_empties 22 = .ok (.bipush 20, 2) := by decide +kernel
theorem dX11_empties_24 : decode cX11_empties 24 = .ok (.iastore, 1) := by decide +kernel
theorem dX11_empties_25 : decode cX11_empties 25 = .ok (.return_, 1) := by decide +kernel
theorem dX11_within_0 : decode cX11_within 0 = .ok (.iload_n 0, 1) := by decide +kernel
theorem dX11_within_1 : decode cX11_within 1 = .ok (.iload_n 1, 1) := by decide +kernel
theorem dX11_within_2 : decode cX11_within 2 = .ok (.if_icmp .lt 12, 3) := by decide +kernel
theorem dX11_within_5 : decode cX11_within 5 = .ok (.iload_n 0, 1) := by decide +kernel
theorem dX11_within_6 : decode cX11_within 6 = .ok (.iload_n 2, 1) := by decide +kernel
theorem dX11_within_7 : decode cX11_within 7 = .ok (.if_icmp .gt 7, 3) := by decide +kernel
theorem dX11_within_10 : decode cX11_within 10 = .ok (.iconst 1, 1) := by decide +kernel
theorem dX11_within_11 : decode cX11_within 11 = .ok (.goto 4, 3) := by decide +kernel
theorem dX11_within_14 : decode cX11_within 14 = .ok (.iconst 0, 1) := by decide +kernel
theorem dX11_within_15 : decode cX11_within 15 = .ok (.ireturn, 1) := by decide +kernel
theorem dX11_has_0 : decode cX11_has 0 = .ok (.iload_n 0, 1) := by decide +kernel
theorem dX11_has_1 : decode cX11_has 1 = .ok (.iload_n 1, 1) := by decide +kernel
theorem dX11_has_2 : decode cX11_has 2 = .ok (.ishr, 1) := by decide +kernel
theorem dX11_has_3 : decode cX11_has 3 = .ok (.iconst 1, 1) := by decide +kernel
theorem dX11_has_4 : decode cX11_has 4 = .ok (.iand, 1) := by decide +kernel
theorem dX11_has_5 : decode cX11_has 5 = .ok (.iconst 1, 1) := by decide +kernel
theorem dX11_has_6 : decode cX11_has 6 = .ok (.if_icmp .ne 7, 3) := by decide +kernel
theorem dX11_has_9 : decode cX11_has 9 = .ok (.iconst 1, 1) := by decide +kernel
theorem dX11_has_10 : decode cX11_has 10 = .ok (.goto 4, 3) := by decide +kernel
theorem dX11_has_13 : decode cX11_has 13 = .ok (.iconst 0, 1) := by decide +kernel
theorem dX11_has_14 : decode cX11_has 14 = .ok (.ireturn, 1) := by decide +kernel
theorem dX11_bits_0 : decode cX11_bits 0 = .ok (.iconst 0, 1) := by decide +kernel
theorem dX11_bits_1 : decode cX11_bits 1 = .ok (.istore_n 1, 1) := by decide +kernel
theorem dX11_bits_2 : decode cX11_bits 2 = .ok (.iconst 0, 1) := by decide +kernel
theorem dX11_bits_3 : decode cX11_bits 3 = .ok (.istore_n 2, 1) := by decide +kernel
theorem dX11_bits_4 : decode cX11_bits 4 = .ok (.iload_n 2, 1) := by decide +kernel
theorem dX11_bits_5 : decode cX11_bits 5 = .ok (.bipush 12, 2) := by decide +kernel
theorem dX11_bits_7 : decode cX11_bits 7 = .ok (.if_icmp .ge 17, 3) := by decide +kernel
theorem dX11_bits_10 : decode cX11_bits 10 = .ok (.iload_n 1, 1) := by decide +kernel
theorem dX11_bits_11 : decode cX11_bits 11 = .ok (.iload_n 0, 1) := by decide +kernel
theorem dX11_bits_12 : decode cX11_bits 12 = .ok (.iload_n 2, 1) := by decide +kernel
theorem dX11_bits_13 : decode cX11_bits 13 = .ok (.ishr, 1) := by decide +kernel
theorem dX11_bits_14 : decode cX11_bits 14 = .ok (.iconst 1, 1) := by decide +kernel
theorem dX11_bits_15 : decode cX11_bits 15 = .ok (.iand, 1) := by decide +kernel
theorem dX11_bits_16 : decode cX11_bits 16 = .ok (.iadd, 1) := by decide +kernel
theorem dX11_bits_17 : decode cX11_bits 17 = .ok (.istore_n 1, 1) := by decide +kernel
theorem dX11_bits_18 : decode cX11_bits 18 = .ok (.iinc 2 1, 3) := by decide +kernel
theorem dX11_bits_21 : decode cX11_bits 21 = .ok (.goto (-17), 3) := by decide +kernel
theorem dX11_bits_24 : decode cX11_bits 24 = .ok (.iload_n 1, 1) := by decide +kernel
theorem dX11_bits_25 : decode cX11_bits 25 = .ok (.ireturn, 1) := by decide +kernel
theorem dX11_size0_0 : decode cX11_size0 0 = .ok (.iload_n 0, 1) := by decide +kernel
theorem dX11_size0_1 : decode cX11_size0 1 = .ok (.ifCond .ge 8, 3) := by decide +kernel
theorem dX11_size0_4 : decode cX11_size0 4 = .ok (.iload_n 0, 1) := by decide +kernel
theorem dX11_size0_5 : decode cX11_size0 5 = .ok (.ineg, 1) := by decide +kernel
theorem dX11_size0_6 : decode cX11_size0 6 = .ok (.goto 4, 3) := by decide +kernel
theorem dX11_size0_9 : decode cX11_size0 9 = .ok (.iload_n 0, 1) := by decide +kernel
theorem dX11_size0_10 : decode cX11_size0 10 = .ok (.ireturn, 1) := by decide +kernel
theorem dX11_throwsIf_0 : decode cX11_throwsIf 0 = .ok (.aload_n 0, 1) := by decide +kernel
theorem dX11_throwsIf_1 : decode cX11_throwsIf 1 = .ok (.getfield 50, 3) := by decide +kernel
theorem dX11_throwsIf_4 : decode cX11_throwsIf 4 = .ok (.ifCond .ne 12, 3) := by decide +kernel
theorem dX11_throwsIf_7 : decode cX11_throwsIf 7 = .ok (.iload_n 1, 1) := by decide +kernel
theorem dX11_throwsIf_8 : decode cX11_throwsIf 8 = .ok (.ifCond .eq 8, 3) := by decide +kernel
theorem dX11_throwsIf_11 : decode cX11_throwsIf 11 = .ok (.aload_n 0, 1) := by decide +kernel
theorem dX11_throwsIf_12 : decode cX11_throwsIf 12 = .ok (.iload_n 2, 1) := by decide +kernel
theorem dX11_throwsIf_13 : decode cX11_throwsIf 13 = .ok (.putfield 50, 3) := by decide +kernel
theorem dX11_throwsIf_16 : decode cX11_throwsIf 16 = .ok (.aload_n 0, 1) := by decide +kernel
theorem dX11_throwsIf_17 : decode cX11_throwsIf 17 = .ok (.getfield 50, 3) := by decide +kernel
theorem dX11_throwsIf_20 : decode cX11_throwsIf 20 = .ok (.ifCond .le 7, 3) := by decide +kernel
theorem dX11_throwsIf_23 : decode cX11_throwsIf 23 = .ok (.iconst 1, 1) := by decide +kernel
theorem dX11_throwsIf_24 : decode cX11_throwsIf 24 = .ok (.goto 4, 3) := by decide +kernel
theorem dX11_throwsIf_27 : decode cX11_throwsIf 27 = .ok (.iconst 0, 1) := by decide +kernel
theorem dX11_throwsIf_28 : decode cX11_throwsIf 28 = .ok (.ireturn, 1) := by decide +kernel
theorem dX11_copies_0 : decode cX11_copies 0 = .ok (.iconst 0, 1) := by decide +kernel
theorem dX11_copies_1 : decode cX11_copies 1 = .ok (.istore 4, 2) := by decide +kernel
theorem dX11_copies_3 : decode cX11_copies 3 = .ok (.iload 4, 2) := by decide +kernel
theorem dX11_copies_5 : decode cX11_copies 5 = .ok (.sipush 268, 3) := by decide +kernel
theorem dX11_copies_8 : decode cX11_copies 8 = .ok (.if_icmp .ge 21, 3) := by decide +kernel
theorem dX11_copies_11 : decode cX11_copies 11 = .ok (.aload_n 2, 1) := by decide +kernel
theorem dX11_copies_12 : decode cX11_copies 12 = .ok (.iload_n 3, 1) := by decide +kernel
theorem dX11_copies_13 : decode cX11_copies 13 = .ok (.iload 4, 2) := by decide +kernel
theorem dX11_copies_15 : decode cX11_copies 15 = .ok (.iadd, 1) := by decide +kernel
theorem dX11_copies_16 : decode cX11_copies 16 = .ok (.aload_n 0, 1) := by decide +kernel
theorem dX11_copies_17 : decode cX11_copies 17 = .ok (.iload_n 1, 1) := by decide +kernel
theorem dX11_copies_18 : decode cX11_copies 18 = .ok (.iload 4, 2) := by decide +kernel
theorem dX11_copies_20 : decode cX11_copies 20 = .ok (.iadd, 1) := by decide +kernel
theorem dX11_copies_21 : decode cX11_copies 21 = .ok (.iaload, 1) := by decide +kernel
theorem dX11_copies_22 : decode cX11_copies 22 = .ok (.iastore, 1) := by decide +kernel
theorem dX11_copies_23 : decode cX11_copies 23 = .ok (.iinc 4 1, 3) := by decide +kernel
theorem dX11_copies_26 : decode cX11_copies 26 = .ok (.goto (-23), 3) := by decide +kernel
theorem dX11_copies_29 : decode cX11_copies 29 = .ok (.return_, 1) := by decide +kernel
theorem dX11_chutes_0 : decode cX11_chutes 0 = .ok (.aload_n 0, 1) := by decide +kernel
theorem dX11_chutes_1 : decode cX11_chutes 1 = .ok (.getfield 7, 3) := by decide +kernel
theorem dX11_chutes_4 : decode cX11_chutes 4 = .ok (.bipush 8, 2) := by decide +kernel
theorem dX11_chutes_6 : decode cX11_chutes 6 = .ok (.iaload, 1) := by decide +kernel
theorem dX11_chutes_7 : decode cX11_chutes 7 = .ok (.aload_n 0, 1) := by decide +kernel
theorem dX11_chutes_8 : decode cX11_chutes 8 = .ok (.getfield 7, 3) := by decide +kernel
theorem dX11_chutes_11 : decode cX11_chutes 11 = .ok (.bipush 9, 2) := by decide +kernel
theorem dX11_chutes_13 : decode cX11_chutes 13 = .ok (.iaload, 1) := by decide +kernel
theorem dX11_chutes_14 : decode cX11_chutes 14 = .ok (.iadd, 1) := by decide +kernel
theorem dX11_chutes_15 : decode cX11_chutes 15 = .ok (.ireturn, 1) := by decide +kernel
theorem dX11_placeOf_0 : decode cX11_placeOf 0 = .ok (.iload_n 1, 1) := by decide +kernel
theorem dX11_placeOf_1 : decode cX11_placeOf 1 = .ok (.aload_n 0, 1) := by decide +kernel
theorem dX11_placeOf_2 : decode cX11_placeOf 2 = .ok (.getfield 7, 3) := by decide +kernel
theorem dX11_placeOf_5 : decode cX11_placeOf 5 = .ok (.bipush 8, 2) := by decide +kernel
theorem dX11_placeOf_7 : decode cX11_placeOf 7 = .ok (.iaload, 1) := by decide +kernel
theorem dX11_placeOf_8 : decode cX11_placeOf 8 = .ok (.if_icmp .ge 7, 3) := by decide +kernel
theorem dX11_placeOf_11 : decode cX11_placeOf 11 = .ok (.iload_n 1, 1) := by decide +kernel
theorem dX11_placeOf_12 : decode cX11_placeOf 12 = .ok (.goto 5, 3) := by decide +kernel
theorem dX11_placeOf_15 : decode cX11_placeOf 15 = .ok (.bipush 8, 2) := by decide +kernel
theorem dX11_placeOf_17 : decode cX11_placeOf 17 = .ok (.ireturn, 1) := by decide +kernel
theorem dX11_numberOf_0 : decode cX11_numberOf 0 = .ok (.iload_n 1, 1) := by decide +kernel
theorem dX11_numberOf_1 : decode cX11_numberOf 1 = .ok (.bipush 8, 2) := by decide +kernel
theorem dX11_numberOf_3 : decode cX11_numberOf 3 = .ok (.if_icmp .ne 13, 3) := by decide +kernel
theorem dX11_numberOf_6 : decode cX11_numberOf 6 = .ok (.aload_n 0, 1) := by decide +kernel
theorem dX11_numberOf_7 : decode cX11_numberOf 7 = .ok (.getfield 7, 3) := by decide +kernel
theorem dX11_numberOf_10 : decode cX11_numberOf 10 = .ok (.bipush 8, 2) := by decide +kernel
theorem dX11_numberOf_12 : decode cX11_numberOf 12 = .ok (.iaload, 1) := by decide +kernel
theorem dX11_numberOf_13 : decode cX11_numberOf 13 = .ok (.goto 4, 3) := by decide +kernel
theorem dX11_numberOf_16 : decode cX11_numberOf 16 = .ok (.iload_n 1, 1) := by decide +kernel
theorem dX11_numberOf_17 : decode cX11_numberOf 17 = .ok (.ireturn, 1) := by decide +kernel
theorem dX11_noChute_0 : decode cX11_noChute 0 = .ok (.aload_n 0, 1) := by decide +kernel
theorem dX11_noChute_1 : decode cX11_noChute 1 = .ok (.iload_n 1, 1) := by decide +kernel
theorem dX11_noChute_2 : decode cX11_noChute 2 = .ok (.iconst 0, 1) := by decide +kernel
theorem dX11_noChute_3 : decode cX11_noChute 3 = .ok (.aload_n 0, 1) := by decide +kernel
theorem dX11_noChute_4 : decode cX11_noChute 4 = .ok (.invokevirtual 53, 3) := by decide +kernel
theorem dX11_noChute_7 : decode cX11_noChute 7 = .ok (.iconst 1, 1) := by decide +kernel
theorem dX11_noChute_8 : decode cX11_noChute 8 = .ok (.isub, 1) := by decide +kernel
theorem dX11_noChute_9 : decode cX11_noChute 9 = .ok (.invokestatic 57, 3) := by decide +kernel
theorem dX11_noChute_12 : decode cX11_noChute 12 = .ok (.ifCond .ne 7, 3) := by decide +kernel
theorem dX11_noChute_15 : decode cX11_noChute 15 = .ok (.iconst 1, 1) := by decide +kernel
theorem dX11_noChute_16 : decode cX11_noChute 16 = .ok (.goto 4, 3) := by decide +kernel
theorem dX11_noChute_19 : decode cX11_noChute 19 = .ok (.iconst 0, 1) := by decide +kernel
theorem dX11_noChute_20 : decode cX11_noChute 20 = .ok (.iconst 1, 1) := by decide +kernel
theorem dX11_noChute_21 : decode cX11_noChute 21 = .ok (.invokevirtual 61, 3) := by decide +kernel
theorem dX11_noChute_24 : decode cX11_noChute 24 = .ok (.ireturn, 1) := by decide +kernel
theorem dX11_noLayer_0 : decode cX11_noLayer 0 = .ok (.aload_n 0, 1) := by decide +kernel
theorem dX11_noLayer_1 : decode cX11_noLayer 1 = .ok (.iload_n 1, 1) := by decide +kernel
theorem dX11_noLayer_2 : decode cX11_noLayer 2 = .ok (.iconst 0, 1) := by decide +kernel
theorem dX11_noLayer_3 : decode cX11_noLayer 3 = .ok (.aload_n 0, 1) := by decide +kernel
theorem dX11_noLayer_4 : decode cX11_noLayer 4 = .ok (.getfield 7, 3) := by decide +kernel
theorem dX11_noLayer_7 : decode cX11_noLayer 7 = .ok (.bipush 8, 2) := by decide +kernel
theorem dX11_noLayer_9 : decode cX11_noLayer 9 = .ok (.iaload, 1) := by decide +kernel
theorem dX11_noLayer_10 : decode cX11_noLayer 10 = .ok (.iconst 1, 1) := by decide +kernel
theorem dX11_noLayer_11 : decode cX11_noLayer 11 = .ok (.isub, 1) := by decide +kernel
theorem dX11_noLayer_12 : decode cX11_noLayer 12 = .ok (.invokestatic 57, 3) := by decide +kernel
theorem dX11_noLayer_15 : decode cX11_noLayer 15 = .ok (.ifCond .ne 7, 3) := by decide +kernel
theorem dX11_noLayer_18 : decode cX11_noLayer 18 = .ok (.iconst 1, 1) := by decide +kernel
theorem dX11_noLayer_19 : decode cX11_noLayer 19 = .ok (.goto 4, 3) := by decide +kernel
theorem dX11_noLayer_22 : decode cX11_noLayer 22 = .ok (.iconst 0, 1) := by decide +kernel
theorem dX11_noLayer_23 : decode cX11_noLayer 23 = .ok (.iconst 1, 1) := by decide +kernel
theorem dX11_noLayer_24 : decode cX11_noLayer 24 = .ok (.invokevirtual 61, 3) := by decide +kernel
theorem dX11_noLayer_27 : decode cX11_noLayer 27 = .ok (.ireturn, 1) := by decide +kernel
theorem dX11_isThere_0 : decode cX11_isThere 0 = .ok (.iload_n 1, 1) := by decide +kernel
theorem dX11_isThere_1 : decode cX11_isThere 1 = .ok (.bipush 8, 2) := by decide +kernel
theorem dX11_isThere_3 : decode cX11_isThere 3 = .ok (.if_icmp .ne 22, 3) := by decide +kernel
theorem dX11_isThere_6 : decode cX11_isThere 6 = .ok (.aload_n 0, 1) := by decide +kernel
theorem dX11_isThere_7 : decode cX11_isThere 7 = .ok (.getfield 7, 3) := by decide +kernel
theorem dX11_isThere_10 : decode cX11_isThere 10 = .ok (.bipush 9, 2) := by decide +kernel
theorem dX11_isThere_12 : decode cX11_isThere 12 = .ok (.iaload, 1) := by decide +kernel
theorem dX11_isThere_13 : decode cX11_isThere 13 = .ok (.iconst 1, 1) := by decide +kernel
theorem dX11_isThere_14 : decode cX11_isThere 14 = .ok (.if_icmp .ne 7, 3) := by decide +kernel
theorem dX11_isThere_17 : decode cX11_isThere 17 = .ok (.iconst 1, 1) := by decide +kernel
theorem dX11_isThere_18 : decode cX11_isThere 18 = .ok (.goto 23, 3) := by decide +kernel
theorem dX11_isThere_21 : decode cX11_isThere 21 = .ok (.iconst 0, 1) := by decide +kernel
theorem dX11_isThere_22 : decode cX11_isThere 22 = .ok (.goto 19, 3) := by decide +kernel
theorem dX11_isThere_25 : decode cX11_isThere 25 = .ok (.iload_n 1, 1) := by decide +kernel
theorem dX11_isThere_26 : decode cX11_isThere 26 = .ok (.aload_n 0, 1) := by decide +kernel
theorem dX11_isThere_27 : decode cX11_isThere 27 = .ok (.getfield 7, 3) := by decide +kernel
theorem dX11_isThere_30 : decode cX11_isThere 30 = .ok (.bipush 8, 2) := by decide +kernel
theorem dX11_isThere_32 : decode cX11_isThere 32 = .ok (.iaload, 1) := by decide +kernel
theorem dX11_isThere_33 : decode cX11_isThere 33 = .ok (.if_icmp .ge 7, 3) := by decide +kernel
theorem dX11_isThere_36 : decode cX11_isThere 36 = .ok (.iconst 1, 1) := by decide +kernel
theorem dX11_isThere_37 : decode cX11_isThere 37 = .ok (.goto 4, 3) := by decide +kernel
theorem dX11_isThere_40 : decode cX11_isThere 40 = .ok (.iconst 0, 1) := by decide +kernel
theorem dX11_isThere_41 : decode cX11_isThere 41 = .ok (.ireturn, 1) := by decide +kernel
theorem dX11_inState_0 : decode cX11_inState 0 = .ok (.iconst 0, 1) := by decide +kernel
theorem dX11_inState_1 : decode cX11_inState 1 = .ok (.istore_n 2, 1) := by decide +kernel
theorem dX11_inState_2 : decode cX11_inState 2 = .ok (.iconst 0, 1) := by decide +kernel
theorem dX11_inState_3 : decode cX11_inState 3 = .ok (.istore_n 3, 1) := by decide +kernel
theorem dX11_inState_4 : decode cX11_inState 4 = .ok (.iload_n 3, 1) := by decide +kernel
theorem dX11_inState_5 : decode cX11_inState 5 = .ok (.bipush 9, 2) := by decide +kernel
theorem dX11_inState_7 : decode cX11_inState 7 = .ok (.if_icmp .ge 38, 3) := by decide +kernel
theorem dX11_inState_10 : decode cX11_inState 10 = .ok (.iload_n 2, 1) := by decide +kernel
theorem dX11_inState_11 : decode cX11_inState 11 = .ok (.aload_n 0, 1) := by decide +kernel
theorem dX11_inState_12 : decode cX11_inState 12 = .ok (.iload_n 3, 1) := by decide +kernel
theorem dX11_inState_13 : decode cX11_inState 13 = .ok (.invokevirtual 65, 3) := by decide +kernel
theorem dX11_inState_16 : decode cX11_inState 16 = .ok (.ifCond .eq 20, 3) := by decide +kernel
theorem dX11_inState_19 : decode cX11_inState 19 = .ok (.aload_n 0, 1) := by decide +kernel
theorem dX11_inState_20 : decode cX11_inState 20 = .ok (.getfield 7, 3) := by decide +kernel
theorem dX11_inState_23 : decode cX11_inState 23 = .ok (.bipush 65, 2) := by decide +kernel
theorem dX11_inState_25 : decode cX11_inState 25 = .ok (.iload_n 3, 1) := by decide +kernel
theorem dX11_inState_26 : decode cX11_inState 26 = .ok (.iadd, 1) := by decide +kernel
theorem dX11_inState_27 : decode cX11_inState 27 = .ok (.iaload, 1) := by decide +kernel
theorem dX11_inState_28 : decode cX11_inState 28 = .ok (.iload_n 1, 1) := by decide +kernel
theorem dX11_inState_29 : decode cX11_inState 29 = .ok (.if_icmp .ne 7, 3) := by decide +kernel
theorem dX11_inState_32 : decode cX11_inState 32 = .ok (.iconst 1, 1) := by decide +kernel
theorem dX11_inState_33 : decode cX11_inState 33 = .ok (.goto 4, 3) := by decide +kernel
theorem dX11_inState_36 : decode cX11_inState 36 = .ok (.iconst 0, 1) := by decide +kernel
theorem dX11_inState_37 : decode cX11_inState 37 = .ok (.iadd, 1) := by decide +kernel
theorem dX11_inState_38 : decode cX11_inState 38 = .ok (.istore_n 2, 1) := by decide +kernel
theorem dX11_inState_39 : decode cX11_inState 39 = .ok (.iinc 3 1, 3) := by decide +kernel
theorem dX11_inState_42 : decode cX11_inState 42 = .ok (.goto (-38), 3) := by decide +kernel
theorem dX11_inState_45 : decode cX11_inState 45 = .ok (.iload_n 2, 1) := by decide +kernel
theorem dX11_inState_46 : decode cX11_inState 46 = .ok (.ireturn, 1) := by decide +kernel
theorem dX11_failed_0 : decode cX11_failed 0 = .ok (.iconst 0, 1) := by decide +kernel
theorem dX11_failed_1 : decode cX11_failed 1 = .ok (.istore_n 1, 1) := by decide +kernel
theorem dX11_failed_2 : decode cX11_failed 2 = .ok (.iconst 0, 1) := by decide +kernel
theorem dX11_failed_3 : decode cX11_failed 3 = .ok (.istore_n 2, 1) := by decide +kernel
theorem dX11_failed_4 : decode cX11_failed 4 = .ok (.iload_n 2, 1) := by decide +kernel
theorem dX11_failed_5 : decode cX11_failed 5 = .ok (.aload_n 0, 1) := by decide +kernel
theorem dX11_failed_6 : decode cX11_failed 6 = .ok (.getfield 7, 3) := by decide +kernel
theorem dX11_failed_9 : decode cX11_failed 9 = .ok (.bipush 8, 2) := by decide +kernel
theorem dX11_failed_11 : decode cX11_failed 11 = .ok (.iaload, 1) := by decide +kernel
theorem dX11_failed_12 : decode cX11_failed 12 = .ok (.if_icmp .ge 43, 3) := by decide +kernel
theorem dX11_failed_15 : decode cX11_failed 15 = .ok (.iload_n 1, 1) := by decide +kernel
theorem dX11_failed_16 : decode cX11_failed 16 = .ok (.aload_n 0, 1) := by decide +kernel
theorem dX11_failed_17 : decode cX11_failed 17 = .ok (.getfield 7, 3) := by decide +kernel
theorem dX11_failed_20 : decode cX11_failed 20 = .ok (.bipush 65, 2) := by decide +kernel
theorem dX11_failed_22 : decode cX11_failed 22 = .ok (.iload_n 2, 1) := by decide +kernel
theorem dX11_failed_23 : decode cX11_failed 23 = .ok (.iadd, 1) := by decide +kernel
theorem dX11_failed_24 : decode cX11_failed 24 = .ok (.iaload, 1) := by decide +kernel
theorem dX11_failed_25 : decode cX11_failed 25 = .ok (.iconst 2, 1) := by decide +kernel
theorem dX11_failed_26 : decode cX11_failed 26 = .ok (.if_icmp .eq 16, 3) := by decide +kernel
theorem dX11_failed_29 : decode cX11_failed 29 = .ok (.aload_n 0, 1) := by decide +kernel
theorem dX11_failed_30 : decode cX11_failed 30 = .ok (.getfield 7, 3) := by decide +kernel
theorem dX11_failed_33 : decode cX11_failed 33 = .ok (.bipush 65, 2) := by decide +kernel
theorem dX11_failed_35 : decode cX11_failed 35 = .ok (.iload_n 2, 1) := by decide +kernel
theorem dX11_failed_36 : decode cX11_failed 36 = .ok (.iadd, 1) := by decide +kernel
theorem dX11_failed_37 : decode cX11_failed 37 = .ok (.iaload, 1) := by decide +kernel
theorem dX11_failed_38 : decode cX11_failed 38 = .ok (.iconst 3, 1) := by decide +kernel
theorem dX11_failed_39 : decode cX11_failed 39 = .ok (.if_icmp .ne 7, 3) := by decide +kernel
theorem dX11_failed_42 : decode cX11_failed 42 = .ok (.iconst 1, 1) := by decide +kernel
theorem dX11_failed_43 : decode cX11_failed 43 = .ok (.goto 4, 3) := by decide +kernel
theorem dX11_failed_46 : decode cX11_failed 46 = .ok (.iconst 0, 1) := by decide +kernel
theorem dX11_failed_47 : decode cX11_failed 47 = .ok (.iadd, 1) := by decide +kernel
theorem dX11_failed_48 : decode cX11_failed 48 = .ok (.istore_n 1, 1) := by decide +kernel
theorem dX11_failed_49 : decode cX11_failed 49 = .ok (.iinc 2 1, 3) := by decide +kernel
theorem dX11_failed_52 : decode cX11_failed 52 = .ok (.goto (-48), 3) := by decide +kernel
theorem dX11_failed_55 : decode cX11_failed 55 = .ok (.iload_n 1, 1) := by decide +kernel
theorem dX11_failed_56 : decode cX11_failed 56 = .ok (.ireturn, 1) := by decide +kernel
theorem dX11_mayOpen_0 : decode cX11_mayOpen 0 = .ok (.aload_n 0, 1) := by decide +kernel
theorem dX11_mayOpen_1 : decode cX11_mayOpen 1 = .ok (.getfield 7, 3) := by decide +kernel
theorem dX11_mayOpen_4 : decode cX11_mayOpen 4 = .ok (.bipush 65, 2) := by decide +kernel
theorem dX11_mayOpen_6 : decode cX11_mayOpen 6 = .ok (.iload_n 1, 1) := by decide +kernel
theorem dX11_mayOpen_7 : decode cX11_mayOpen 7 = .ok (.iadd, 1) := by decide +kernel
theorem dX11_mayOpen_8 : decode cX11_mayOpen 8 = .ok (.iaload, 1) := by decide +kernel
theorem dX11_mayOpen_9 : decode cX11_mayOpen 9 = .ok (.ifCond .ne 43, 3) := by decide +kernel
theorem dX11_mayOpen_12 : decode cX11_mayOpen 12 = .ok (.aload_n 0, 1) := by decide +kernel
theorem dX11_mayOpen_13 : decode cX11_mayOpen 13 = .ok (.getfield 7, 3) := by decide +kernel
theorem dX11_mayOpen_16 : decode cX11_mayOpen 16 = .ok (.iconst 0, 1) := by decide +kernel
theorem dX11_mayOpen_17 : decode cX11_mayOpen 17 = .ok (.iaload, 1) := by decide +kernel
theorem dX11_mayOpen_18 : decode cX11_mayOpen 18 = .ok (.aload_n 0, 1) := by decide +kernel
theorem dX11_mayOpen_19 : decode cX11_mayOpen 19 = .ok (.getfield 7, 3) := by decide +kernel
theorem dX11_mayOpen_22 : decode cX11_mayOpen 22 = .ok (.bipush 47, 2) := by decide +kernel
theorem dX11_mayOpen_24 : decode cX11_mayOpen 24 = .ok (.iload_n 1, 1) := by decide +kernel
theorem dX11_mayOpen_25 : decode cX11_mayOpen 25 = .ok (.iadd, 1) := by decide +kernel
theorem dX11_mayOpen_26 : decode cX11_mayOpen 26 = .ok (.iaload, 1) := by decide +kernel
theorem dX11_mayOpen_27 : decode cX11_mayOpen 27 = .ok (.if_icmp .gt 25, 3) := by decide +kernel
theorem dX11_mayOpen_30 : decode cX11_mayOpen 30 = .ok (.aload_n 0, 1) := by decide +kernel
theorem dX11_mayOpen_31 : decode cX11_mayOpen 31 = .ok (.getfield 7, 3) := by decide +kernel
theorem dX11_mayOpen_34 : decode cX11_mayOpen 34 = .ok (.iconst 1, 1) := by decide +kernel
theorem dX11_mayOpen_35 : decode cX11_mayOpen 35 = .ok (.iaload, 1) := by decide +kernel
theorem dX11_mayOpen_36 : decode cX11_mayOpen 36 = .ok (.aload_n 0, 1) := by decide +kernel
theorem dX11_mayOpen_37 : decode cX11_mayOpen 37 = .ok (.getfield 7, 3) := by decide +kernel
theorem dX11_mayOpen_40 : decode cX11_mayOpen 40 = .ok (.bipush 56, 2) := by decide +kernel
theorem dX11_mayOpen_42 : decode cX11_mayOpen 42 = .ok (.iload_n 1, 1) := by decide +kernel
theorem dX11_mayOpen_43 : decode cX11_mayOpen 43 = .ok (.iadd, 1) := by decide +kernel
theorem dX11_mayOpen_44 : decode cX11_mayOpen 44 = .ok (.iaload, 1) := by decide +kernel
theorem dX11_mayOpen_45 : decode cX11_mayOpen 45 = .ok (.if_icmp .gt 7, 3) := by decide +kernel
theorem dX11_mayOpen_48 : decode cX11_mayOpen 48 = .ok (.iconst 1, 1) := by decide +kernel
theorem dX11_mayOpen_49 : decode cX11_mayOpen 49 = .ok (.goto 4, 3) := by decide +kernel
theorem dX11_mayOpen_52 : decode cX11_mayOpen 52 = .ok (.iconst 0, 1) := by decide +kernel
theorem dX11_mayOpen_53 : decode cX11_mayOpen 53 = .ok (.ireturn, 1) := by decide +kernel
theorem dX11_firstThatMay_0 : decode cX11_firstThatMay 0 = .ok (.iconst 0, 1) := by decide +kernel
theorem dX11_firstThatMay_1 : decode cX11_firstThatMay 1 = .ok (.istore_n 1, 1) := by decide +kernel
theorem dX11_firstThatMay_2 : decode cX11_firstThatMay 2 = .ok (.iload_n 1, 1) := by decide +kernel
theorem dX11_firstThatMay_3 : decode cX11_firstThatMay 3 = .ok (.aload_n 0, 1) := by decide +kernel
theorem dX11_firstThatMay_4 : decode cX11_firstThatMay 4 = .ok (.getfield 7, 3) := by decide +kernel
theorem dX11_firstThatMay_7 : decode cX11_firstThatMay 7 = .ok (.bipush 8, 2) := by decide +kernel
theorem dX11_firstThatMay_9 : decode cX11_firstThatMay 9 = .ok (.iaload, 1) := by decide +kernel
theorem dX11_firstThatMay_10 : decode cX11_firstThatMay 10 = .ok (.if_icmp .ge 19, 3) := by decide +kernel
theorem dX11_firstThatMay_13 : decode cX11_firstThatMay 13 = .ok (.aload_n 0, 1) := by decide +kernel
theorem dX11_firstThatMay_14 : decode cX11_firstThatMay 14 = .ok (.iload_n 1, 1) := by decide +kernel
theorem dX11_firstThatMay_15 : decode cX11_firstThatMay 15 = .ok (.invokevirtual 69, 3) := by decide +kernel
theorem dX11_firstThatMay_18 : decode cX11_firstThatMay 18 = .ok (.ifCond .eq 5, 3) := by decide +kernel
theorem dX11_firstThatMay_21 : decode cX11_firstThatMay 21 = .ok (.iload_n 1, 1) := by decide +kernel
theorem dX11_firstThatMay_22 : decode cX11_firstThatMay 22 = .ok (.ireturn, 1) := by decide +kernel
theorem dX11_firstThatMay_23 : decode cX11_firstThatMay 23 = .ok (.iinc 1 1, 3) := by decide +kernel
theorem dX11_firstThatMay_26 : decode cX11_firstThatMay 26 = .ok (.goto (-24), 3) := by decide +kernel
theorem dX11_firstThatMay_29 : decode cX11_firstThatMay 29 = .ok (.iconst (-1), 1) := by decide +kernel
theorem dX11_firstThatMay_30 : decode cX11_firstThatMay 30 = .ok (.ireturn, 1) := by decide +kernel
theorem dX11_reserveMay_0 : decode cX11_reserveMay 0 = .ok (.aload_n 0, 1) := by decide +kernel
theorem dX11_reserveMay_1 : decode cX11_reserveMay 1 = .ok (.getfield 7, 3) := by decide +kernel
theorem dX11_reserveMay_4 : decode cX11_reserveMay 4 = .ok (.bipush 9, 2) := by decide +kernel
theorem dX11_reserveMay_6 : decode cX11_reserveMay 6 = .ok (.iaload, 1) := by decide +kernel
theorem dX11_reserveMay_7 : decode cX11_reserveMay 7 = .ok (.iconst 1, 1) := by decide +kernel
theorem dX11_reserveMay_8 : decode cX11_reserveMay 8 = .ok (.if_icmp .ne 55, 3) := by decide +kernel
theorem dX11_reserveMay_11 : decode cX11_reserveMay 11 = .ok (.aload_n 0, 1) := by decide +kernel
theorem dX11_reserveMay_12 : decode cX11_reserveMay 12 = .ok (.getfield 7, 3) := by decide +kernel
theorem dX11_reserveMay_15 : decode cX11_reserveMay 15 = .ok (.bipush 73, 2) := by decide +kernel
theorem dX11_reserveMay_17 : decode cX11_reserveMay 17 = .ok (.iaload, 1) := by decide +kernel
theorem dX11_reserveMay_18 : decode cX11_reserveMay 18 = .ok (.ifCond .ne 45, 3) := by decide +kernel
theorem dX11_reserveMay_21 : decode cX11_reserveMay 21 = .ok (.aload_n 0, 1) := by decide +kernel
theorem dX11_reserveMay_22 : decode cX11_reserveMay 22 = .ok (.getfield 7, 3) := by decide +kernel
theorem dX11_reserveMay_25 : decode cX11_reserveMay 25 = .ok (.iconst 0, 1) := by decide +kernel
theorem dX11_reserveMay_26 : decode cX11_reserveMay 26 = .ok (.iaload, 1) := by decide +kernel
theorem dX11_reserveMay_27 : decode cX11_reserveMay 27 = .ok (.aload_n 0, 1) := by decide +kernel
theorem dX11_reserveMay_28 : decode cX11_reserveMay 28 = .ok (.getfield 7, 3) := by decide +kernel
theorem dX11_reserveMay_31 : decode cX11_reserveMay 31 = .ok (.bipush 55, 2) := by decide +kernel
theorem dX11_reserveMay_33 : decode cX11_reserveMay 33 = .ok (.iaload, 1) := by decide +kernel
theorem dX11_reserveMay_34 : decode cX11_reserveMay 34 = .ok (.if_icmp .gt 29, 3) := by decide +kernel
theorem dX11_reserveMay_37 : decode cX11_reserveMay 37 = .ok (.aload_n 0, 1) := by decide +kernel
theorem dX11_reserveMay_38 : decode cX11_reserveMay 38 = .ok (.invokevirtual 72, 3) := by decide +kernel
theorem dX11_reserveMay_41 : decode cX11_reserveMay 41 = .ok (.aload_n 0, 1) := by decide +kernel
theorem dX11_reserveMay_42 : decode cX11_reserveMay 42 = .ok (.getfield 7, 3) := by decide +kernel
theorem dX11_reserveMay_45 : decode cX11_reserveMay 45 = .ok (.bipush 64, 2) := by decide +kernel
theorem dX11_reserveMay_47 : decode cX11_reserveMay 47 = .ok (.iaload, 1) := by decide +kernel
theorem dX11_reserveMay_48 : decode cX11_reserveMay 48 = .ok (.if_icmp .lt 15, 3) := by decide +kernel
theorem dX11_reserveMay_51 : decode cX11_reserveMay 51 = .ok (.aload_n 0, 1) := by decide +kernel
theorem dX11_reserveMay_52 : decode cX11_reserveMay 52 = .ok (.invokevirtual 75, 3) := by decide +kernel
theorem dX11_reserveMay_55 : decode cX11_reserveMay 55 = .ok (.iconst (-1), 1) := by decide +kernel
theorem dX11_reserveMay_56 : decode cX11_reserveMay 56 = .ok (.if_icmp .ne 7, 3) := by decide +kernel
theorem dX11_reserveMay_59 : decode cX11_reserveMay 59 = .ok (.iconst 1, 1) := by decide +kernel
theorem dX11_reserveMay_60 : decode cX11_reserveMay 60 = .ok (.goto 4, 3) := by decide +kernel
theorem dX11_reserveMay_63 : decode cX11_reserveMay 63 = .ok (.iconst 0, 1) := by decide +kernel
theorem dX11_reserveMay_64 : decode cX11_reserveMay 64 = .ok (.ireturn, 1) := by decide +kernel
theorem dX11_targetFor_0 : decode cX11_targetFor 0 = .ok (.iconst (-1), 1) := by decide +kernel
theorem dX11_targetFor_1 : decode cX11_targetFor 1 = .ok (.istore_n 2, 1) := by decide +kernel
theorem dX11_targetFor_2 : decode cX11_targetFor 2 = .ok (.iconst 0, 1) := by decide +kernel
theorem dX11_targetFor_3 : decode cX11_targetFor 3 = .ok (.istore_n 3, 1) := by decide +kernel
theorem dX11_targetFor_4 : decode cX11_targetFor 4 = .ok (.iload_n 3, 1) := by decide +kernel
theorem dX11_targetFor_5 : decode cX11_targetFor 5 = .ok (.aload_n 0, 1) := by decide +kernel
theorem dX11_targetFor_6 : decode cX11_targetFor 6 = .ok (.getfield 7, 3) := by decide +kernel
theorem dX11_targetFor_9 : decode cX11_targetFor 9 = .ok (.bipush 10, 2) := by decide +kernel
theorem dX11_targetFor_11 : decode cX11_targetFor 11 = .ok (.iaload, 1) := by decide +kernel
theorem dX11_targetFor_12 : decode cX11_targetFor 12 = .ok (.if_icmp .ge 51, 3) := by decide +kernel
theorem dX11_targetFor_15 : decode cX11_targetFor 15 = .ok (.aload_n 0, 1) := by decide +kernel
theorem dX11_targetFor_16 : decode cX11_targetFor 16 = .ok (.getfield 7, 3) := by decide +kernel
theorem dX11_targetFor_19 : decode cX11_targetFor 19 = .ok (.bipush 92, 2) := by decide +kernel
theorem dX11_targetFor_21 : decode cX11_targetFor 21 = .ok (.iconst 2, 1) := by decide +kernel
theorem dX11_targetFor_22 : decode cX11_targetFor 22 = .ok (.iload_n 3, 1) := by decide +kernel
theorem dX11_targetFor_23 : decode cX11_targetFor 23 = .ok (.imul, 1) := by decide +kernel
theorem dX11_targetFor_24 : decode cX11_targetFor 24 = .ok (.iadd, 1) := by decide +kernel
theorem dX11_targetFor_25 : decode cX11_targetFor 25 = .ok (.iaload, 1) := by decide +kernel
theorem dX11_targetFor_26 : decode cX11_targetFor 26 = .ok (.istore 4, 2) := by decide +kernel
theorem dX11_targetFor_28 : decode cX11_targetFor 28 = .ok (.iload 4, 2) := by decide +kernel
theorem dX11_targetFor_30 : decode cX11_targetFor 30 = .ok (.iload_n 1, 1) := by decide +kernel
theorem dX11_targetFor_31 : decode cX11_targetFor 31 = .ok (.if_icmp .lt 26, 3) := by decide +kernel
theorem dX11_targetFor_34 : decode cX11_targetFor 34 = .ok (.iload_n 2, 1) := by decide +kernel
theorem dX11_targetFor_35 : decode cX11_targetFor 35 = .ok (.iconst (-1), 1) := by decide +kernel
theorem dX11_targetFor_36 : decode cX11_targetFor 36 = .ok (.if_icmp .eq 19, 3) := by decide +kernel
theorem dX11_targetFor_39 : decode cX11_targetFor 39 = .ok (.iload 4, 2) := by decide +kernel
theorem dX11_targetFor_41 : decode cX11_targetFor 41 = .ok (.aload_n 0, 1) := by decide +kernel
theorem dX11_targetFor_42 : decode cX11_targetFor 42 = .ok (.getfield 7, 3) := by decide +kernel
theorem dX11_targetFor_45 : decode cX11_targetFor 45 = .ok (.bipush 92, 2) := by decide +kernel
theorem dX11_targetFor_47 : decode cX11_targetFor 47 = .ok (.iconst 2, 1) := by decide +kernel
theorem dX11_targetFor_48 : decode cX11_targetFor 48 = .ok (.iload_n 2, 1) := by decide +kernel
theorem dX11_targetFor_49 : decode cX11_targetFor 49 = .ok (.imul, 1) := by decide +kernel
theorem dX11_targetFor_50 : decode cX11_targetFor 50 = .ok (.iadd, 1) := by decide +kernel
theorem dX11_targetFor_51 : decode cX11_targetFor 51 = .ok (.iaload, 1) := by decide +kernel
theorem dX11_targetFor_52 : decode cX11_targetFor 52 = .ok (.if_icmp .ge 5, 3) := by decide +kernel
theorem dX11_targetFor_55 : decode cX11_targetFor 55 = .ok (.iload_n 3, 1) := by decide +kernel
theorem dX11_targetFor_56 : decode cX11_targetFor 56 = .ok (.istore_n 2, 1) := by decide +kernel
theorem dX11_targetFor_57 : decode cX11_targetFor 57 = .ok (.iinc 3 1, 3) := by decide +kernel
theorem dX11_targetFor_60 : decode cX11_targetFor 60 = .ok (.goto (-56), 3) := by decide +kernel
theorem dX11_targetFor_63 : decode cX11_targetFor 63 = .ok (.iload_n 2, 1) := by decide +kernel
theorem dX11_targetFor_64 : decode cX11_targetFor 64 = .ok (.iconst (-1), 1) := by decide +kernel
theorem dX11_targetFor_65 : decode cX11_targetFor 65 = .ok (.if_icmp .ne 7, 3) := by decide +kernel
theorem dX11_targetFor_68 : decode cX11_targetFor 68 = .ok (.iconst (-1), 1) := by decide +kernel
theorem dX11_targetFor_69 : decode cX11_targetFor 69 = .ok (.goto 16, 3) := by decide +kernel
theorem dX11_targetFor_72 : decode cX11_targetFor 72 = .ok (.aload_n 0, 1) := by decide +kernel
theorem dX11_targetFor_73 : decode cX11_targetFor 73 = .ok (.getfield 7, 3) := by decide +kernel
theorem dX11_targetFor_76 : decode cX11_targetFor 76 = .ok (.bipush 92, 2) := by decide +kernel
theorem dX11_targetFor_78 : decode cX11_targetFor 78 = .ok (.iconst 2, 1) := by decide +kernel
theorem dX11_targetFor_79 : decode cX11_targetFor 79 = .ok (.iload_n 2, 1) := by decide +kernel
theorem dX11_targetFor_80 : decode cX11_targetFor 80 = .ok (.imul, 1) := by decide +kernel
theorem dX11_targetFor_81 : decode cX11_targetFor 81 = .ok (.iadd, 1) := by decide +kernel
theorem dX11_targetFor_82 : decode cX11_targetFor 82 = .ok (.iconst 1, 1) := by decide +kernel
theorem dX11_targetFor_83 : decode cX11_targetFor 83 = .ok (.iadd, 1) := by decide +kernel
theorem dX11_targetFor_84 : decode cX11_targetFor 84 = .ok (.iaload, 1) := by decide +kernel
theorem dX11_targetFor_85 : decode cX11_targetFor 85 = .ok (.ireturn, 1) := by decide +kernel
theorem dX11_windFor_0 : decode cX11_windFor 0 = .ok (.iconst (-1), 1) := by decide +kernel
theorem dX11_windFor_1 : decode cX11_windFor 1 = .ok (.istore_n 2, 1) := by decide +kernel
theorem dX11_windFor_2 : decode cX11_windFor 2 = .ok (.iconst 0, 1) := by decide +kernel
theorem dX11_windFor_3 : decode cX11_windFor 3 = .ok (.istore_n 3, 1) := by decide +kernel
theorem dX11_windFor_4 : decode cX11_windFor 4 = .ok (.iload_n 3, 1) := by decide +kernel
theorem dX11_windFor_5 : decode cX11_windFor 5 = .ok (.aload_n 0, 1) := by decide +kernel
theorem dX11_windFor_6 : decode cX11_windFor 6 = .ok (.getfield 7, 3) := by decide +kernel
theorem dX11_windFor_9 : decode cX11_windFor 9 = .ok (.bipush 11, 2) := by decide +kernel
theorem dX11_windFor_11 : decode cX11_windFor 11 = .ok (.iaload, 1) := by decide +kernel
theorem dX11_windFor_12 : decode cX11_windFor 12 = .ok (.if_icmp .ge 51, 3) := by decide +kernel
theorem dX11_windFor_15 : decode cX11_windFor 15 = .ok (.aload_n 0, 1) := by decide +kernel
theorem dX11_windFor_16 : decode cX11_windFor 16 = .ok (.getfield 7, 3) := by decide +kernel
theorem dX11_windFor_19 : decode cX11_windFor 19 = .ok (.bipush 108, 2) := by decide +kernel
theorem dX11_windFor_21 : decode cX11_windFor 21 = .ok (.iconst 2, 1) := by decide +kernel
theorem dX11_windFor_22 : decode cX11_windFor 22 = .ok (.iload_n 3, 1) := by decide +kernel
theorem dX11_windFor_23 : decode cX11_windFor 23 = .ok (.imul, 1) := by decide +kernel
theorem dX11_windFor_24 : decode cX11_windFor 24 = .ok (.iadd, 1) := by decide +kernel
theorem dX11_windFor_25 : decode cX11_windFor 25 = .ok (.iaload, 1) := by decide +kernel
theorem dX11_windFor_26 : decode cX11_windFor 26 = .ok (.istore 4, 2) := by decide +kernel
theorem dX11_windFor_28 : decode cX11_windFor 28 = .ok (.iload 4, 2) := by decide +kernel
theorem dX11_windFor_30 : decode cX11_windFor 30 = .ok (.iload_n 1, 1) := by decide +kernel
theorem dX11_windFor_31 : decode cX11_windFor 31 = .ok (.if_icmp .gt 26, 3) := by decide +kernel
theorem dX11_windFor_34 : decode cX11_windFor 34 = .ok (.iload_n 2, 1) := by decide +kernel
theorem dX11_windFor_35 : decode cX11_windFor 35 = .ok (.iconst (-1), 1) := by decide +kernel
theorem dX11_windFor_36 : decode cX11_windFor 36 = .ok (.if_icmp .eq 19, 3) := by decide +kernel
theorem dX11_windFor_39 : decode cX11_windFor 39 = .ok (.iload 4, 2) := by decide +kernel
theorem dX11_windFor_41 : decode cX11_windFor 41 = .ok (.aload_n 0, 1) := by decide +kernel
theorem dX11_windFor_42 : decode cX11_windFor 42 = .ok (.getfield 7, 3) := by decide +kernel
theorem dX11_windFor_45 : decode cX11_windFor 45 = .ok (.bipush 108, 2) := by decide +kernel
theorem dX11_windFor_47 : decode cX11_windFor 47 = .ok (.iconst 2, 1) := by decide +kernel
theorem dX11_windFor_48 : decode cX11_windFor 48 = .ok (.iload_n 2, 1) := by decide +kernel
theorem dX11_windFor_49 : decode cX11_windFor 49 = .ok (.imul, 1) := by decide +kernel
theorem dX11_windFor_50 : decode cX11_windFor 50 = .ok (.iadd, 1) := by decide +kernel
theorem dX11_windFor_51 : decode cX11_windFor 51 = .ok (.iaload, 1) := by decide +kernel
theorem dX11_windFor_52 : decode cX11_windFor 52 = .ok (.if_icmp .le 5, 3) := by decide +kernel
theorem dX11_windFor_55 : decode cX11_windFor 55 = .ok (.iload_n 3, 1) := by decide +kernel
theorem dX11_windFor_56 : decode cX11_windFor 56 = .ok (.istore_n 2, 1) := by decide +kernel
theorem dX11_windFor_57 : decode cX11_windFor 57 = .ok (.iinc 3 1, 3) := by decide +kernel
theorem dX11_windFor_60 : decode cX11_windFor 60 = .ok (.goto (-56), 3) := by decide +kernel
theorem dX11_windFor_63 : decode cX11_windFor 63 = .ok (.iload_n 2, 1) := by decide +kernel
theorem dX11_windFor_64 : decode cX11_windFor 64 = .ok (.iconst (-1), 1) := by decide +kernel
theorem dX11_windFor_65 : decode cX11_windFor 65 = .ok (.if_icmp .ne 7, 3) := by decide +kernel
theorem dX11_windFor_68 : decode cX11_windFor 68 = .ok (.iconst 0, 1) := by decide +kernel
theorem dX11_windFor_69 : decode cX11_windFor 69 = .ok (.goto 16, 3) := by decide +kernel
theorem dX11_windFor_72 : decode cX11_windFor 72 = .ok (.aload_n 0, 1) := by decide +kernel
theorem dX11_windFor_73 : decode cX11_windFor 73 = .ok (.getfield 7, 3) := by decide +kernel
theorem dX11_windFor_76 : decode cX11_windFor 76 = .ok (.bipush 108, 2) := by decide +kernel
theorem dX11_windFor_78 : decode cX11_windFor 78 = .ok (.iconst 2, 1) := by decide +kernel
theorem dX11_windFor_79 : decode cX11_windFor 79 = .ok (.iload_n 2, 1) := by decide +kernel
theorem dX11_windFor_80 : decode cX11_windFor 80 = .ok (.imul, 1) := by decide +kernel
theorem dX11_windFor_81 : decode cX11_windFor 81 = .ok (.iadd, 1) := by decide +kernel
theorem dX11_windFor_82 : decode cX11_windFor 82 = .ok (.iconst 1, 1) := by decide +kernel
theorem dX11_windFor_83 : decode cX11_windFor 83 = .ok (.iadd, 1) := by decide +kernel
theorem dX11_windFor_84 : decode cX11_windFor 84 = .ok (.iaload, 1) := by decide +kernel
theorem dX11_windFor_85 : decode cX11_windFor 85 = .ok (.ireturn, 1) := by decide +kernel
theorem dX11_asksNow_0 : decode cX11_asksNow 0 = .ok (.aload_n 0, 1) := by decide +kernel
theorem dX11_asksNow_1 : decode cX11_asksNow 1 = .ok (.aload_n 0, 1) := by decide +kernel
theorem dX11_asksNow_2 : decode cX11_asksNow 2 = .ok (.getfield 7, 3) := by decide +kernel
theorem dX11_asksNow_5 : decode cX11_asksNow 5 = .ok (.iconst 0, 1) := by decide +kernel
theorem dX11_asksNow_6 : decode cX11_asksNow 6 = .ok (.iaload, 1) := by decide +kernel
theorem dX11_asksNow_7 : decode cX11_asksNow 7 = .ok (.invokevirtual 78, 3) := by decide +kernel
theorem dX11_asksNow_10 : decode cX11_asksNow 10 = .ok (.istore_n 1, 1) := by decide +kernel
theorem dX11_asksNow_11 : decode cX11_asksNow 11 = .ok (.iload_n 1, 1) := by decide +kernel
theorem dX11_asksNow_12 : decode cX11_asksNow 12 = .ok (.iconst (-1), 1) := by decide +kernel
theorem dX11_asksNow_13 : decode cX11_asksNow 13 = .ok (.if_icmp .eq 17, 3) := by decide +kernel
theorem dX11_asksNow_16 : decode cX11_asksNow 16 = .ok (.aload_n 0, 1) := by decide +kernel
theorem dX11_asksNow_17 : decode cX11_asksNow 17 = .ok (.getfield 7, 3) := by decide +kernel
theorem dX11_asksNow_20 : decode cX11_asksNow 20 = .ok (.iconst 1, 1) := by decide +kernel
theorem dX11_asksNow_21 : decode cX11_asksNow 21 = .ok (.iaload, 1) := by decide +kernel
theorem dX11_asksNow_22 : decode cX11_asksNow 22 = .ok (.iload_n 1, 1) := by decide +kernel
theorem dX11_asksNow_23 : decode cX11_asksNow 23 = .ok (.if_icmp .le 7, 3) := by decide +kernel
theorem dX11_asksNow_26 : decode cX11_asksNow 26 = .ok (.iconst 1, 1) := by decide +kernel
theorem dX11_asksNow_27 : decode cX11_asksNow 27 = .ok (.goto 4, 3) := by decide +kernel
theorem dX11_asksNow_30 : decode cX11_asksNow 30 = .ok (.iconst 0, 1) := by decide +kernel
theorem dX11_asksNow_31 : decode cX11_asksNow 31 = .ok (.ireturn, 1) := by decide +kernel
theorem dX11_air_0 : decode cX11_air 0 = .ok (.bipush 100, 2) := by decide +kernel
theorem dX11_air_2 : decode cX11_air 2 = .ok (.iload_n 0, 1) := by decide +kernel
theorem dX11_air_3 : decode cX11_air 3 = .ok (.sipush 400, 3) := by decide +kernel
theorem dX11_air_6 : decode cX11_air 6 = .ok (.idiv, 1) := by decide +kernel
theorem dX11_air_7 : decode cX11_air 7 = .ok (.isub, 1) := by decide +kernel
theorem dX11_air_8 : decode cX11_air 8 = .ok (.ireturn, 1) := by decide +kernel
theorem dX11_tells_0 : decode cX11_tells 0 = .ok (.aload_n 0, 1) := by decide +kernel
theorem dX11_tells_1 : decode cX11_tells 1 = .ok (.getfield 7, 3) := by decide +kernel
theorem dX11_tells_4 : decode cX11_tells 4 = .ok (.bipush 16, 2) := by decide +kernel
theorem dX11_tells_6 : decode cX11_tells 6 = .ok (.iaload, 1) := by decide +kernel
theorem dX11_tells_7 : decode cX11_tells 7 = .ok (.bipush 30, 2) := by decide +kernel
theorem dX11_tells_9 : decode cX11_tells 9 = .ok (.if_icmp .ne 51, 3) := by decide +kernel
theorem dX11_tells_12 : decode cX11_tells 12 = .ok (.sipush 148, 3) := by decide +kernel
theorem dX11_tells_15 : decode cX11_tells 15 = .ok (.istore 4, 2) := by decide +kernel
theorem dX11_tells_17 : decode cX11_tells 17 = .ok (.iload 4, 2) := by decide +kernel
theorem dX11_tells_19 : decode cX11_tells 19 = .ok (.iconst 4, 1) := by decide +kernel
theorem dX11_tells_20 : decode cX11_tells 20 = .ok (.iadd, 1) := by decide +kernel
theorem dX11_tells_21 : decode cX11_tells 21 = .ok (.sipush 268, 3) := by decide +kernel
theorem dX11_tells_24 : decode cX11_tells 24 = .ok (.if_icmp .ge 25, 3) := by decide +kernel
theorem dX11_tells_27 : decode cX11_tells 27 = .ok (.aload_n 0, 1) := by decide +kernel
theorem dX11_tells_28 : decode cX11_tells 28 = .ok (.getfield 7, 3) := by decide +kernel
theorem dX11_tells_31 : decode cX11_tells 31 = .ok (.iload 4, 2) := by decide +kernel
theorem dX11_tells_33 : decode cX11_tells 33 = .ok (.aload_n 0, 1) := by decide +kernel
theorem dX11_tells_34 : decode cX11_tells 34 = .ok (.getfield 7, 3) := by decide +kernel
theorem dX11_tells_37 : decode cX11_tells 37 = .ok (.iload 4, 2) := by decide +kernel
theorem dX11_tells_39 : decode cX11_tells 39 = .ok (.iconst 4, 1) := by decide +kernel
theorem dX11_tells_40 : decode cX11_tells 40 = .ok (.iadd, 1) := by decide +kernel
theorem dX11_tells_41 : decode cX11_tells 41 = .ok (.iaload, 1) := by decide +kernel
theorem dX11_tells_42 : decode cX11_tells 42 = .ok (.iastore, 1) := by decide +kernel
theorem dX11_tells_43 : decode cX11_tells 43 = .ok (.iinc 4 1, 3) := by decide +kernel
theorem dX11_tells_46 : decode cX11_tells 46 = .ok (.goto (-29), 3) := by decide +kernel
theorem dX11_tells_49 : decode cX11_tells 49 = .ok (.aload_n 0, 1) := by decide +kernel
theorem dX11_tells_50 : decode cX11_tells 50 = .ok (.getfield 7, 3) := by decide +kernel
theorem dX11_tells_53 : decode cX11_tells 53 = .ok (.bipush 16, 2) := by decide +kernel
theorem dX11_tells_55 : decode cX11_tells 55 = .ok (.dup2, 1) := by decide +kernel
theorem dX11_tells_56 : decode cX11_tells 56 = .ok (.iaload, 1) := by decide +kernel
theorem dX11_tells_57 : decode cX11_tells 57 = .ok (.iconst 1, 1) := by decide +kernel
theorem dX11_tells_58 : decode cX11_tells 58 = .ok (.isub, 1) := by decide +kernel
theorem dX11_tells_59 : decode cX11_tells 59 = .ok (.iastore, 1) := by decide +kernel
theorem dX11_tells_60 : decode cX11_tells 60 = .ok (.sipush 148, 3) := by decide +kernel
theorem dX11_tells_63 : decode cX11_tells 63 = .ok (.iconst 4, 1) := by decide +kernel
theorem dX11_tells_64 : decode cX11_tells 64 = .ok (.aload_n 0, 1) := by decide +kernel
theorem dX11_tells_65 : decode cX11_tells 65 = .ok (.getfield 7, 3) := by decide +kernel
theorem dX11_tells_68 : decode cX11_tells 68 = .ok (.bipush 16, 2) := by decide +kernel
theorem dX11_tells_70 : decode cX11_tells 70 = .ok (.iaload, 1) := by decide +kernel
theorem dX11_tells_71 : decode cX11_tells 71 = .ok (.imul, 1) := by decide +kernel
theorem dX11_tells_72 : decode cX11_tells 72 = .ok (.iadd, 1) := by decide +kernel
theorem dX11_tells_73 : decode cX11_tells 73 = .ok (.istore 4, 2) := by decide +kernel
theorem dX11_tells_75 : decode cX11_tells 75 = .ok (.aload_n 0, 1) := by decide +kernel
theorem dX11_tells_76 : decode cX11_tells 76 = .ok (.getfield 7, 3) := by decide +kernel
theorem dX11_tells_79 : decode cX11_tells 79 = .ok (.iload 4, 2) := by decide +kernel
theorem dX11_tells_81 : decode cX11_tells 81 = .ok (.aload_n 0, 1) := by decide +kernel
theorem dX11_tells_82 : decode cX11_tells 82 = .ok (.getfield 7, 3) := by decide +kernel
theorem dX11_tells_85 : decode cX11_tells 85 = .ok (.bipush 6, 2) := by decide +kernel
theorem dX11_tells_87 : decode cX11_tells 87 = .ok (.iaload, 1) := by decide +kernel
theorem dX11_tells_88 : decode cX11_tells 88 = .ok (.iastore, 1) := by decide +kernel
theorem dX11_tells_89 : decode cX11_tells 89 = .ok (.aload_n 0, 1) := by decide +kernel
theorem dX11_tells_90 : decode cX11_tells 90 = .ok (.getfield 7, 3) := by decide +kernel
theorem dX11_tells_93 : decode cX11_tells 93 = .ok (.iload 4, 2) := by decide +kernel
theorem dX11_tells_95 : decode cX11_tells 95 = .ok (.iconst 1, 1) := by decide +kernel
theorem dX11_tells_96 : decode cX11_tells 96 = .ok (.iadd, 1) := by decide +kernel
theorem dX11_tells_97 : decode cX11_tells 97 = .ok (.iload_n 1, 1) := by decide +kernel
theorem dX11_tells_98 : decode cX11_tells 98 = .ok (.iastore, 1) := by decide +kernel
theorem dX11_tells_99 : decode cX11_tells 99 = .ok (.aload_n 0, 1) := by decide +kernel
theorem dX11_tells_100 : decode cX11_tells 100 = .ok (.getfield 7, 3) := by decide +kernel
theorem dX11_tells_103 : decode cX11_tells 103 = .ok (.iload 4, 2) := by decide +kernel
theorem dX11_tells_105 : decode cX11_tells 105 = .ok (.iconst 2, 1) := by decide +kernel
theorem dX11_tells_106 : decode cX11_tells 106 = .ok (.iadd, 1) := by decide +kernel
theorem dX11_tells_107 : decode cX11_tells 107 = .ok (.iload_n 2, 1) := by decide +kernel
theorem dX11_tells_108 : decode cX11_tells 108 = .ok (.iastore, 1) := by decide +kernel
theorem dX11_tells_109 : decode cX11_tells 109 = .ok (.aload_n 0, 1) := by decide +kernel
theorem dX11_tells_110 : decode cX11_tells 110 = .ok (.getfield 7, 3) := by decide +kernel
theorem dX11_tells_113 : decode cX11_tells 113 = .ok (.iload 4, 2) := by decide +kernel
theorem dX11_tells_115 : decode cX11_tells 115 = .ok (.iconst 3, 1) := by decide +kernel
theorem dX11_tells_116 : decode cX11_tells 116 = .ok (.iadd, 1) := by decide +kernel
theorem dX11_tells_117 : decode cX11_tells 117 = .ok (.iload_n 3, 1) := by decide +kernel
theorem dX11_tells_118 : decode cX11_tells 118 = .ok (.iastore, 1) := by decide +kernel
theorem dX11_tells_119 : decode cX11_tells 119 = .ok (.aload_n 0, 1) := by decide +kernel
theorem dX11_tells_120 : decode cX11_tells 120 = .ok (.getfield 7, 3) := by decide +kernel
theorem dX11_tells_123 : decode cX11_tells 123 = .ok (.bipush 16, 2) := by decide +kernel
theorem dX11_tells_125 : decode cX11_tells 125 = .ok (.dup2, 1) := by decide +kernel
theorem dX11_tells_126 : decode cX11_tells 126 = .ok (.iaload, 1) := by decide +kernel
theorem dX11_tells_127 : decode cX11_tells 127 = .ok (.iconst 1, 1) := by decide +kernel
theorem dX11_tells_128 : decode cX11_tells 128 = .ok (.iadd, 1) := by decide +kernel
theorem dX11_tells_129 : decode cX11_tells 129 = .ok (.iastore, 1) := by decide +kernel
theorem dX11_tells_130 : decode cX11_tells 130 = .ok (.return_, 1) := by decide +kernel
theorem dX11_opens_0 : decode cX11_opens 0 = .ok (.aload_n 0, 1) := by decide +kernel
theorem dX11_opens_1 : decode cX11_opens 1 = .ok (.getfield 7, 3) := by decide +kernel
theorem dX11_opens_4 : decode cX11_opens 4 = .ok (.bipush 65, 2) := by decide +kernel
theorem dX11_opens_6 : decode cX11_opens 6 = .ok (.iload_n 1, 1) := by decide +kernel
theorem dX11_opens_7 : decode cX11_opens 7 = .ok (.iadd, 1) := by decide +kernel
theorem dX11_opens_8 : decode cX11_opens 8 = .ok (.aload_n 0, 1) := by decide +kernel
theorem dX11_opens_9 : decode cX11_opens 9 = .ok (.getfield 7, 3) := by decide +kernel
theorem dX11_opens_12 : decode cX11_opens 12 = .ok (.bipush 83, 2) := by decide +kernel
theorem dX11_opens_14 : decode cX11_opens 14 = .ok (.iload_n 1, 1) := by decide +kernel
theorem dX11_opens_15 : decode cX11_opens 15 = .ok (.iadd, 1) := by decide +kernel
theorem dX11_opens_16 : decode cX11_opens 16 = .ok (.iaload, 1) := by decide +kernel
theorem dX11_opens_17 : decode cX11_opens 17 = .ok (.iconst 1, 1) := by decide +kernel
theorem dX11_opens_18 : decode cX11_opens 18 = .ok (.if_icmp .ne 7, 3) := by decide +kernel
theorem dX11_opens_21 : decode cX11_opens 21 = .ok (.iconst 3, 1) := by decide +kernel
theorem dX11_opens_22 : decode cX11_opens 22 = .ok (.goto 4, 3) := by decide +kernel
theorem dX11_opens_25 : decode cX11_opens 25 = .ok (.iconst 1, 1) := by decide +kernel
theorem dX11_opens_26 : decode cX11_opens 26 = .ok (.iastore, 1) := by decide +kernel
theorem dX11_opens_27 : decode cX11_opens 27 = .ok (.aload_n 0, 1) := by decide +kernel
theorem dX11_opens_28 : decode cX11_opens 28 = .ok (.aload_n 0, 1) := by decide +kernel
theorem dX11_opens_29 : decode cX11_opens 29 = .ok (.getfield 7, 3) := by decide +kernel
theorem dX11_opens_32 : decode cX11_opens 32 = .ok (.bipush 83, 2) := by decide +kernel
theorem dX11_opens_34 : decode cX11_opens 34 = .ok (.iload_n 1, 1) := by decide +kernel
theorem dX11_opens_35 : decode cX11_opens 35 = .ok (.iadd, 1) := by decide +kernel
theorem dX11_opens_36 : decode cX11_opens 36 = .ok (.iaload, 1) := by decide +kernel
theorem dX11_opens_37 : decode cX11_opens 37 = .ok (.iconst 1, 1) := by decide +kernel
theorem dX11_opens_38 : decode cX11_opens 38 = .ok (.if_icmp .ne 7, 3) := by decide +kernel
theorem dX11_opens_41 : decode cX11_opens 41 = .ok (.iconst 3, 1) := by decide +kernel
theorem dX11_opens_42 : decode cX11_opens 42 = .ok (.goto 4, 3) := by decide +kernel
theorem dX11_opens_45 : decode cX11_opens 45 = .ok (.iconst 0, 1) := by decide +kernel
theorem dX11_opens_46 : decode cX11_opens 46 = .ok (.iload_n 1, 1) := by decide +kernel
theorem dX11_opens_47 : decode cX11_opens 47 = .ok (.aload_n 0, 1) := by decide +kernel
theorem dX11_opens_48 : decode cX11_opens 48 = .ok (.getfield 7, 3) := by decide +kernel
theorem dX11_opens_51 : decode cX11_opens 51 = .ok (.iconst 1, 1) := by decide +kernel
theorem dX11_opens_52 : decode cX11_opens 52 = .ok (.iaload, 1) := by decide +kernel
theorem dX11_opens_53 : decode cX11_opens 53 = .ok (.invokevirtual 82, 3) := by decide +kernel
theorem dX11_opens_56 : decode cX11_opens 56 = .ok (.return_, 1) := by decide +kernel
theorem dX11_opensReserve_0 : decode cX11_opensReserve 0 = .ok (.aload_n 0, 1) := by decide +kernel
theorem dX11_opensReserve_1 : decode cX11_opensReserve 1 = .ok (.getfield 7, 3) := by decide +kernel
theorem dX11_opensReserve_4 : decode cX11_opensReserve 4 = .ok (.bipush 73, 2) := by decide +kernel
theorem dX11_opensReserve_6 : decode cX11_opensReserve 6 = .ok (.iconst 1, 1) := by decide +kernel
theorem dX11_opensReserve_7 : decode cX11_opensReserve 7 = .ok (.iastore, 1) := by decide +kernel
theorem dX11_opensReserve_8 : decode cX11_opensReserve 8 = .ok (.aload_n 0, 1) := by decide +kernel
theorem dX11_opensReserve_9 : decode cX11_opensReserve 9 = .ok (.iconst 4, 1) := by decide +kernel
theorem dX11_opensReserve_10 : decode cX11_opensReserve 10 = .ok (.aload_n 0, 1) := by decide +kernel
theorem dX11_opensReserve_11 : decode cX11_opensReserve 11 = .ok (.getfield 7, 3) := by decide +kernel
theorem dX11_opensReserve_14 : decode cX11_opensReserve 14 = .ok (.bipush 8, 2) := by decide +kernel
theorem dX11_opensReserve_16 : decode cX11_opensReserve 16 = .ok (.iaload, 1) := by decide +kernel
theorem dX11_opensReserve_17 : decode cX11_opensReserve 17 = .ok (.aload_n 0, 1) := by decide +kernel
theorem dX11_opensReserve_18 : decode cX11_opensReserve 18 = .ok (.invokevirtual 72, 3) := by decide +kernel
theorem dX11_opensReserve_21 : decode cX11_opensReserve 21 = .ok (.invokevirtual 82, 3) := by decide +kernel
theorem dX11_opensReserve_24 : decode cX11_opensReserve 24 = .ok (.return_, 1) := by decide +kernel
theorem dX11_pull_0 : decode cX11_pull 0 = .ok (.aload_n 0, 1) := by decide +kernel
theorem dX11_pull_1 : decode cX11_pull 1 = .ok (.getfield 7, 3) := by decide +kernel
theorem dX11_pull_4 : decode cX11_pull 4 = .ok (.bipush 20, 2) := by decide +kernel
theorem dX11_pull_6 : decode cX11_pull 6 = .ok (.iload_n 1, 1) := by decide +kernel
theorem dX11_pull_7 : decode cX11_pull 7 = .ok (.iadd, 1) := by decide +kernel
theorem dX11_pull_8 : decode cX11_pull 8 = .ok (.iaload, 1) := by decide +kernel
theorem dX11_pull_9 : decode cX11_pull 9 = .ok (.i2l, 1) := by decide +kernel
theorem dX11_pull_10 : decode cX11_pull 10 = .ok (.aload_n 0, 1) := by decide +kernel
theorem dX11_pull_11 : decode cX11_pull 11 = .ok (.getfield 7, 3) := by decide +kernel
theorem dX11_pull_14 : decode cX11_pull 14 = .ok (.iconst 0, 1) := by decide +kernel
theorem dX11_pull_15 : decode cX11_pull 15 = .ok (.iaload, 1) := by decide +kernel
theorem dX11_pull_16 : decode cX11_pull 16 = .ok (.invokestatic 86, 3) := by decide +kernel
theorem dX11_pull_19 : decode cX11_pull 19 = .ok (.i2l, 1) := by decide +kernel
theorem dX11_pull_20 : decode cX11_pull 20 = .ok (.lmul, 1) := by decide +kernel
theorem dX11_pull_21 : decode cX11_pull 21 = .ok (.aload_n 0, 1) := by decide +kernel
theorem dX11_pull_22 : decode cX11_pull 22 = .ok (.getfield 7, 3) := by decide +kernel
theorem dX11_pull_25 : decode cX11_pull 25 = .ok (.iconst 1, 1) := by decide +kernel
theorem dX11_pull_26 : decode cX11_pull 26 = .ok (.iaload, 1) := by decide +kernel
theorem dX11_pull_27 : decode cX11_pull 27 = .ok (.i2l, 1) := by decide +kernel
theorem dX11_pull_28 : decode cX11_pull 28 = .ok (.lmul, 1) := by decide +kernel
theorem dX11_pull_29 : decode cX11_pull 29 = .ok (.aload_n 0, 1) := by decide +kernel
theorem dX11_pull_30 : decode cX11_pull 30 = .ok (.getfield 7, 3) := by decide +kernel
theorem dX11_pull_33 : decode cX11_pull 33 = .ok (.iconst 1, 1) := by decide +kernel
theorem dX11_pull_34 : decode cX11_pull 34 = .ok (.iaload, 1) := by decide +kernel
theorem dX11_pull_35 : decode cX11_pull 35 = .ok (.i2l, 1) := by decide +kernel
theorem dX11_pull_36 : decode cX11_pull 36 = .ok (.lmul, 1) := by decide +kernel
theorem dX11_pull_37 : decode cX11_pull 37 = .ok (.ldc2_w 89, 3) := by decide +kernel
theorem dX11_pull_40 : decode cX11_pull 40 = .ok (.ldiv, 1) := by decide +kernel
theorem dX11_pull_41 : decode cX11_pull 41 = .ok (.lreturn, 1) := by decide +kernel
theorem dX11_loadFor_0 : decode cX11_loadFor 0 = .ok (.aload_n 0, 1) := by decide +kernel
theorem dX11_loadFor_1 : decode cX11_loadFor 1 = .ok (.iload_n 1, 1) := by decide +kernel
theorem dX11_loadFor_2 : decode cX11_loadFor 2 = .ok (.invokevirtual 91, 3) := by decide +kernel
theorem dX11_loadFor_5 : decode cX11_loadFor 5 = .ok (.bipush 100, 2) := by decide +kernel
theorem dX11_loadFor_7 : decode cX11_loadFor 7 = .ok (.iconst 5, 1) := by decide +kernel
theorem dX11_loadFor_8 : decode cX11_loadFor 8 = .ok (.aload_n 0, 1) := by decide +kernel
theorem dX11_loadFor_9 : decode cX11_loadFor 9 = .ok (.getfield 7, 3) := by decide +kernel
theorem dX11_loadFor_12 : decode cX11_loadFor 12 = .ok (.iconst 5, 1) := by decide +kernel
theorem dX11_loadFor_13 : decode cX11_loadFor 13 = .ok (.iaload, 1) := by decide +kernel
theorem dX11_loadFor_14 : decode cX11_loadFor 14 = .ok (.invokestatic 95, 3) := by decide +kernel
theorem dX11_loadFor_17 : decode cX11_loadFor 17 = .ok (.imul, 1) := by decide +kernel
theorem dX11_loadFor_18 : decode cX11_loadFor 18 = .ok (.iadd, 1) := by decide +kernel
theorem dX11_loadFor_19 : decode cX11_loadFor 19 = .ok (.i2l, 1) := by decide +kernel
theorem dX11_loadFor_20 : decode cX11_loadFor 20 = .ok (.lmul, 1) := by decide +kernel
theorem dX11_loadFor_21 : decode cX11_loadFor 21 = .ok (.ldc2_w 98, 3) := by decide +kernel
theorem dX11_loadFor_24 : decode cX11_loadFor 24 = .ok (.ldiv, 1) := by decide +kernel
theorem dX11_loadFor_25 : decode cX11_loadFor 25 = .ok (.lstore_n 3, 1) := by decide +kernel
theorem dX11_loadFor_26 : decode cX11_loadFor 26 = .ok (.lload_n 3, 1) := by decide +kernel
theorem dX11_loadFor_27 : decode cX11_loadFor 27 = .ok (.iload_n 2, 1) := by decide +kernel
theorem dX11_loadFor_28 : decode cX11_loadFor 28 = .ok (.i2l, 1) := by decide +kernel
theorem dX11_loadFor_29 : decode cX11_loadFor 29 = .ok (.ladd, 1) := by decide +kernel
theorem dX11_loadFor_30 : decode cX11_loadFor 30 = .ok (.lconst 1, 1) := by decide +kernel
theorem dX11_loadFor_31 : decode cX11_loadFor 31 = .ok (.lsub, 1) := by decide +kernel
theorem dX11_loadFor_32 : decode cX11_loadFor 32 = .ok (.iload_n 2, 1) := by decide +kernel
theorem dX11_loadFor_33 : decode cX11_loadFor 33 = .ok (.i2l, 1) := by decide +kernel
theorem dX11_loadFor_34 : decode cX11_loadFor 34 = .ok (.ldiv, 1) := by decide +kernel
theorem dX11_loadFor_35 : decode cX11_loadFor 35 = .ok (.lreturn, 1) := by decide +kernel
theorem dX11_strength_0 : decode cX11_strength 0 = .ok (.aload_n 0, 1) := by decide +kernel
theorem dX11_strength_1 : decode cX11_strength 1 = .ok (.getfield 7, 3) := by decide +kernel
theorem dX11_strength_4 : decode cX11_strength 4 = .ok (.bipush 38, 2) := by decide +kernel
theorem dX11_strength_6 : decode cX11_strength 6 = .ok (.iload_n 1, 1) := by decide +kernel
theorem dX11_strength_7 : decode cX11_strength 7 = .ok (.iadd, 1) := by decide +kernel
theorem dX11_strength_8 : decode cX11_strength 8 = .ok (.iaload, 1) := by decide +kernel
theorem dX11_strength_9 : decode cX11_strength 9 = .ok (.iconst 3, 1) := by decide +kernel
theorem dX11_strength_10 : decode cX11_strength 10 = .ok (.iload_n 2, 1) := by decide +kernel
theorem dX11_strength_11 : decode cX11_strength 11 = .ok (.imul, 1) := by decide +kernel
theorem dX11_strength_12 : decode cX11_strength 12 = .ok (.iadd, 1) := by decide +kernel
theorem dX11_strength_13 : decode cX11_strength 13 = .ok (.i2l, 1) := by decide +kernel
theorem dX11_strength_14 : decode cX11_strength 14 = .ok (.lreturn, 1) := by decide +kernel
theorem dX11_linesLeft_0 : decode cX11_linesLeft 0 = .ok (.aload_n 0, 1) := by decide +kernel
theorem dX11_linesLeft_1 : decode cX11_linesLeft 1 = .ok (.getfield 7, 3) := by decide +kernel
theorem dX11_linesLeft_4 : decode cX11_linesLeft 4 = .ok (.bipush 74, 2) := by decide +kernel
theorem dX11_linesLeft_6 : decode cX11_linesLeft 6 = .ok (.iload_n 1, 1) := by decide +kernel
theorem dX11_linesLeft_7 : decode cX11_linesLeft 7 = .ok (.iadd, 1) := by decide +kernel
theorem dX11_linesLeft_8 : decode cX11_linesLeft 8 = .ok (.iaload, 1) := by decide +kernel
theorem dX11_linesLeft_9 : decode cX11_linesLeft 9 = .ok (.istore_n 2, 1) := by decide +kernel
theorem dX11_linesLeft_10 : decode cX11_linesLeft 10 = .ok (.iconst 1, 1) := by decide +kernel
theorem dX11_linesLeft_11 : decode cX11_linesLeft 11 = .ok (.istore_n 3, 1) := by decide +kernel
theorem dX11_linesLeft_12 : decode cX11_linesLeft 12 = .ok (.iload_n 3, 1) := by decide +kernel
theorem dX11_linesLeft_13 : decode cX11_linesLeft 13 = .ok (.ifCond .eq 111, 3) := by decide +kernel
theorem dX11_linesLeft_16 : decode cX11_linesLeft 16 = .ok (.iload_n 2, 1) := by decide +kernel
theorem dX11_linesLeft_17 : decode cX11_linesLeft 17 = .ok (.ifCond .eq 107, 3) := by decide +kernel
theorem dX11_linesLeft_20 : decode cX11_linesLeft 20 = .ok (.aload_n 0, 1) := by decide +kernel
theorem dX11_linesLeft_21 : decode cX11_linesLeft 21 = .ok (.iload_n 1, 1) := by decide +kernel
theorem dX11_linesLeft_22 : decode cX11_linesLeft 22 = .ok (.iload_n 2, 1) := by decide +kernel
theorem dX11_linesLeft_23 : decode cX11_linesLeft 23 = .ok (.invokestatic 100, 3) := by decide +kernel
theorem dX11_linesLeft_26 : decode cX11_linesLeft 26 = .ok (.invokevirtual 103, 3) := by decide +kernel
theorem dX11_linesLeft_29 : decode cX11_linesLeft 29 = .ok (.lstore 4, 2) := by decide +kernel
theorem dX11_linesLeft_31 : decode cX11_linesLeft 31 = .ok (.iload_n 2, 1) := by decide +kernel
theorem dX11_linesLeft_32 : decode cX11_linesLeft 32 = .ok (.istore 6, 2) := by decide +kernel
theorem dX11_linesLeft_34 : decode cX11_linesLeft 34 = .ok (.iconst 0, 1) := by decide +kernel
theorem dX11_linesLeft_35 : decode cX11_linesLeft 35 = .ok (.istore 7, 2) := by decide +kernel
theorem dX11_linesLeft_37 : decode cX11_linesLeft 37 = .ok (.iload 7, 2) := by decide +kernel
theorem dX11_linesLeft_39 : decode cX11_linesLeft 39 = .ok (.aload_n 0, 1) := by decide +kernel
theorem dX11_linesLeft_40 : decode cX11_linesLeft 40 = .ok (.getfield 7, 3) := by decide +kernel
theorem dX11_linesLeft_43 : decode cX11_linesLeft 43 = .ok (.bipush 29, 2) := by decide +kernel
theorem dX11_linesLeft_45 : decode cX11_linesLeft 45 = .ok (.iload_n 1, 1) := by decide +kernel
theorem dX11_linesLeft_46 : decode cX11_linesLeft 46 = .ok (.iadd, 1) := by decide +kernel
theorem dX11_linesLeft_47 : decode cX11_linesLeft 47 = .ok (.iaload, 1) := by decide +kernel
theorem dX11_linesLeft_48 : decode cX11_linesLeft 48 = .ok (.if_icmp .ge 58, 3) := by decide +kernel
theorem dX11_linesLeft_51 : decode cX11_linesLeft 51 = .ok (.iload_n 2, 1) := by decide +kernel
theorem dX11_linesLeft_52 : decode cX11_linesLeft 52 = .ok (.iload 7, 2) := by decide +kernel
theorem dX11_linesLeft_54 : decode cX11_linesLeft 54 = .ok (.invokestatic 107, 3) := by decide +kernel
theorem dX11_linesLeft_57 : decode cX11_linesLeft 57 = .ok (.ifCond .eq 43, 3) := by decide +kernel
theorem dX11_linesLeft_60 : decode cX11_linesLeft 60 = .ok (.aload_n 0, 1) := by decide +kernel
theorem dX11_linesLeft_61 : decode cX11_linesLeft 61 = .ok (.iload_n 1, 1) := by decide +kernel
theorem dX11_linesLeft_62 : decode cX11_linesLeft 62 = .ok (.iload 7, 2) := by decide +kernel
theorem dX11_linesLeft_64 : decode cX11_linesLeft 64 = .ok (.invokevirtual 111, 3) := by decide +kernel
theorem dX11_linesLeft_67 : decode cX11_linesLeft 67 = .ok (.sipush 1000, 3) := by decide +kernel
theorem dX11_linesLeft_70 : decode cX11_linesLeft 70 = .ok (.aload_n 0, 1) := by decide +kernel
theorem dX11_linesLeft_71 : decode cX11_linesLeft 71 = .ok (.getfield 7, 3) := by decide +kernel
theorem dX11_linesLeft_74 : decode cX11_linesLeft 74 = .ok (.iconst 4, 1) := by decide +kernel
theorem dX11_linesLeft_75 : decode cX11_linesLeft 75 = .ok (.iaload, 1) := by decide +kernel
theorem dX11_linesLeft_76 : decode cX11_linesLeft 76 = .ok (.isub, 1) := by decide +kernel
theorem dX11_linesLeft_77 : decode cX11_linesLeft 77 = .ok (.i2l, 1) := by decide +kernel
theorem dX11_linesLeft_78 : decode cX11_linesLeft 78 = .ok (.lmul, 1) := by decide +kernel
theorem dX11_linesLeft_79 : decode cX11_linesLeft 79 = .ok (.ldc2_w 114, 3) := by decide +kernel
theorem dX11_linesLeft_82 : decode cX11_linesLeft 82 = .ok (.ldiv, 1) := by decide +kernel
theorem dX11_linesLeft_83 : decode cX11_linesLeft 83 = .ok (.lload 4, 2) := by decide +kernel
theorem dX11_linesLeft_85 : decode cX11_linesLeft 85 = .ok (.lcmp, 1) := by decide +kernel
theorem dX11_linesLeft_86 : decode cX11_linesLeft 86 = .ok (.ifCond .ge 14, 3) := by decide +kernel
theorem dX11_linesLeft_89 : decode cX11_linesLeft 89 = .ok (.iload 6, 2) := by decide +kernel
theorem dX11_linesLeft_91 : decode cX11_linesLeft 91 = .ok (.iconst 1, 1) := by decide +kernel
theorem dX11_linesLeft_92 : decode cX11_linesLeft 92 = .ok (.iload 7, 2) := by decide +kernel
theorem dX11_linesLeft_94 : decode cX11_linesLeft 94 = .ok (.ishl, 1) := by decide +kernel
theorem dX11_linesLeft_95 : decode cX11_linesLeft 95 = .ok (.iconst (-1), 1) := by decide +kernel
theorem dX11_linesLeft_96 : decode cX11_linesLeft 96 = .ok (.ixor, 1) := by decide +kernel
theorem dX11_linesLeft_97 : decode cX11_linesLeft 97 = .ok (.iand, 1) := by decide +kernel
theorem dX11_linesLeft_98 : decode cX11_linesLeft 98 = .ok (.istore 6, 2) := by decide +kernel
theorem dX11_linesLeft_100 : decode cX11_linesLeft 100 = .ok (.iinc 7 1, 3) := by decide +kernel
theorem dX11_linesLeft_103 : decode cX11_linesLeft 103 = .ok (.goto (-66), 3) := by decide +kernel
theorem dX11_linesLeft_106 : decode cX11_linesLeft 106 = .ok (.iload 6, 2) := by decide +kernel
theorem dX11_linesLeft_108 : decode cX11_linesLeft 108 = .ok (.iload_n 2, 1) := by decide +kernel
theorem dX11_linesLeft_109 : decode cX11_linesLeft 109 = .ok (.if_icmp .eq 7, 3) := by decide +kernel
theorem dX11_linesLeft_112 : decode cX11_linesLeft 112 = .ok (.iconst 1, 1) := by decide +kernel
theorem dX11_linesLeft_113 : decode cX11_linesLeft 113 = .ok (.goto 4, 3) := by decide +kernel
theorem dX11_linesLeft_116 : decode cX11_linesLeft 116 = .ok (.iconst 0, 1) := by decide +kernel
theorem dX11_linesLeft_117 : decode cX11_linesLeft 117 = .ok (.istore_n 3, 1) := by decide +kernel
theorem dX11_linesLeft_118 : decode cX11_linesLeft 118 = .ok (.iload 6, 2) := by decide +kernel
theorem dX11_linesLeft_120 : decode cX11_linesLeft 120 = .ok (.istore_n 2, 1) := by decide +kernel
theorem dX11_linesLeft_121 : decode cX11_linesLeft 121 = .ok (.goto (-109), 3) := by decide +kernel
theorem dX11_linesLeft_124 : decode cX11_linesLeft 124 = .ok (.iload_n 2, 1) := by decide +kernel
theorem dX11_linesLeft_125 : decode cX11_linesLeft 125 = .ok (.ireturn, 1) := by decide +kernel
theorem dX11_tears_0 : decode cX11_tears 0 = .ok (.aload_n 0, 1) := by decide +kernel
theorem dX11_tears_1 : decode cX11_tears 1 = .ok (.iload_n 1, 1) := by decide +kernel
theorem dX11_tears_2 : decode cX11_tears 2 = .ok (.invokevirtual 116, 3) := by decide +kernel
theorem dX11_tears_5 : decode cX11_tears 5 = .ok (.istore_n 2, 1) := by decide +kernel
theorem dX11_tears_6 : decode cX11_tears 6 = .ok (.aload_n 0, 1) := by decide +kernel
theorem dX11_tears_7 : decode cX11_tears 7 = .ok (.getfield 7, 3) := by decide +kernel
theorem dX11_tears_10 : decode cX11_tears 10 = .ok (.bipush 74, 2) := by decide +kernel
theorem dX11_tears_12 : decode cX11_tears 12 = .ok (.iload_n 1, 1) := by decide +kernel
theorem dX11_tears_13 : decode cX11_tears 13 = .ok (.iadd, 1) := by decide +kernel
theorem dX11_tears_14 : decode cX11_tears 14 = .ok (.iaload, 1) := by decide +kernel
theorem dX11_tears_15 : decode cX11_tears 15 = .ok (.invokestatic 100, 3) := by decide +kernel
theorem dX11_tears_18 : decode cX11_tears 18 = .ok (.iload_n 2, 1) := by decide +kernel
theorem dX11_tears_19 : decode cX11_tears 19 = .ok (.invokestatic 100, 3) := by decide +kernel
theorem dX11_tears_22 : decode cX11_tears 22 = .ok (.isub, 1) := by decide +kernel
theorem dX11_tears_23 : decode cX11_tears 23 = .ok (.istore_n 3, 1) := by decide +kernel
theorem dX11_tears_24 : decode cX11_tears 24 = .ok (.aload_n 0, 1) := by decide +kernel
theorem dX11_tears_25 : decode cX11_tears 25 = .ok (.getfield 7, 3) := by decide +kernel
theorem dX11_tears_28 : decode cX11_tears 28 = .ok (.bipush 74, 2) := by decide +kernel
theorem dX11_tears_30 : decode cX11_tears 30 = .ok (.iload_n 1, 1) := by decide +kernel
theorem dX11_tears_31 : decode cX11_tears 31 = .ok (.iadd, 1) := by decide +kernel
theorem dX11_tears_32 : decode cX11_tears 32 = .ok (.iload_n 2, 1) := by decide +kernel
theorem dX11_tears_33 : decode cX11_tears 33 = .ok (.iastore, 1) := by decide +kernel
theorem dX11_tears_34 : decode cX11_tears 34 = .ok (.iload_n 3, 1) := by decide +kernel
theorem dX11_tears_35 : decode cX11_tears 35 = .ok (.ifCond .le 14, 3) := by decide +kernel
theorem dX11_tears_38 : decode cX11_tears 38 = .ok (.aload_n 0, 1) := by decide +kernel
theorem dX11_tears_39 : decode cX11_tears 39 = .ok (.iconst 1, 1) := by decide +kernel
theorem dX11_tears_40 : decode cX11_tears 40 = .ok (.aload_n 0, 1) := by decide +kernel
theorem dX11_tears_41 : decode cX11_tears 41 = .ok (.iload_n 1, 1) := by decide +kernel
theorem dX11_tears_42 : decode cX11_tears 42 = .ok (.invokevirtual 119, 3) := by decide +kernel
theorem dX11_tears_45 : decode cX11_tears 45 = .ok (.iload_n 3, 1) := by decide +kernel
theorem dX11_tears_46 : decode cX11_tears 46 = .ok (.invokevirtual 82, 3) := by decide +kernel
theorem dX11_tears_49 : decode cX11_tears 49 = .ok (.iload_n 2, 1) := by decide +kernel
theorem dX11_tears_50 : decode cX11_tears 50 = .ok (.ifCond .ne 32, 3) := by decide +kernel
theorem dX11_tears_53 : decode cX11_tears 53 = .ok (.aload_n 0, 1) := by decide +kernel
theorem dX11_tears_54 : decode cX11_tears 54 = .ok (.getfield 7, 3) := by decide +kernel
theorem dX11_tears_57 : decode cX11_tears 57 = .ok (.bipush 65, 2) := by decide +kernel
theorem dX11_tears_59 : decode cX11_tears 59 = .ok (.iload_n 1, 1) := by decide +kernel
theorem dX11_tears_60 : decode cX11_tears 60 = .ok (.iadd, 1) := by decide +kernel
theorem dX11_tears_61 : decode cX11_tears 61 = .ok (.iconst 2, 1) := by decide +kernel
theorem dX11_tears_62 : decode cX11_tears 62 = .ok (.iastore, 1) := by decide +kernel
theorem dX11_tears_63 : decode cX11_tears 63 = .ok (.aload_n 0, 1) := by decide +kernel
theorem dX11_tears_64 : decode cX11_tears 64 = .ok (.iconst 2, 1) := by decide +kernel
theorem dX11_tears_65 : decode cX11_tears 65 = .ok (.aload_n 0, 1) := by decide +kernel
theorem dX11_tears_66 : decode cX11_tears 66 = .ok (.iload_n 1, 1) := by decide +kernel
theorem dX11_tears_67 : decode cX11_tears 67 = .ok (.invokevirtual 119, 3) := by decide +kernel
theorem dX11_tears_70 : decode cX11_tears 70 = .ok (.aload_n 0, 1) := by decide +kernel
theorem dX11_tears_71 : decode cX11_tears 71 = .ok (.getfield 7, 3) := by decide +kernel
theorem dX11_tears_74 : decode cX11_tears 74 = .ok (.bipush 20, 2) := by decide +kernel
theorem dX11_tears_76 : decode cX11_tears 76 = .ok (.iload_n 1, 1) := by decide +kernel
theorem dX11_tears_77 : decode cX11_tears 77 = .ok (.iadd, 1) := by decide +kernel
theorem dX11_tears_78 : decode cX11_tears 78 = .ok (.iaload, 1) := by decide +kernel
theorem dX11_tears_79 : decode cX11_tears 79 = .ok (.invokevirtual 82, 3) := by decide +kernel
theorem dX11_tears_82 : decode cX11_tears 82 = .ok (.return_, 1) := by decide +kernel
theorem dX11_firstSpot_0 : decode cX11_firstSpot 0 = .ok (.iconst 0, 1) := by decide +kernel
theorem dX11_firstSpot_1 : decode cX11_firstSpot 1 = .ok (.istore_n 2, 1) := by decide +kernel
theorem dX11_firstSpot_2 : decode cX11_firstSpot 2 = .ok (.iload_n 2, 1) := by decide +kernel
theorem dX11_firstSpot_3 : decode cX11_firstSpot 3 = .ok (.aload_n 0, 1) := by decide +kernel
theorem dX11_firstSpot_4 : decode cX11_firstSpot 4 = .ok (.getfield 7, 3) := by decide +kernel
theorem dX11_firstSpot_7 : decode cX11_firstSpot 7 = .ok (.bipush 12, 2) := by decide +kernel
theorem dX11_firstSpot_9 : decode cX11_firstSpot 9 = .ok (.iaload, 1) := by decide +kernel
theorem dX11_firstSpot_10 : decode cX11_firstSpot 10 = .ok (.if_icmp .ge 42, 3) := by decide +kernel
theorem dX11_firstSpot_13 : decode cX11_firstSpot 13 = .ok (.iload_n 1, 1) := by decide +kernel
theorem dX11_firstSpot_14 : decode cX11_firstSpot 14 = .ok (.aload_n 0, 1) := by decide +kernel
theorem dX11_firstSpot_15 : decode cX11_firstSpot 15 = .ok (.getfield 7, 3) := by decide +kernel
theorem dX11_firstSpot_18 : decode cX11_firstSpot 18 = .ok (.bipush 124, 2) := by decide +kernel
theorem dX11_firstSpot_20 : decode cX11_firstSpot 20 = .ok (.iconst 3, 1) := by decide +kernel
theorem dX11_firstSpot_21 : decode cX11_firstSpot 21 = .ok (.iload_n 2, 1) := by decide +kernel
theorem dX11_firstSpot_22 : decode cX11_firstSpot 22 = .ok (.imul, 1) := by decide +kernel
theorem dX11_firstSpot_23 : decode cX11_firstSpot 23 = .ok (.iadd, 1) := by decide +kernel
theorem dX11_firstSpot_24 : decode cX11_firstSpot 24 = .ok (.iaload, 1) := by decide +kernel
theorem dX11_firstSpot_25 : decode cX11_firstSpot 25 = .ok (.aload_n 0, 1) := by decide +kernel
theorem dX11_firstSpot_26 : decode cX11_firstSpot 26 = .ok (.getfield 7, 3) := by decide +kernel
theorem dX11_firstSpot_29 : decode cX11_firstSpot 29 = .ok (.bipush 124, 2) := by decide +kernel
theorem dX11_firstSpot_31 : decode cX11_firstSpot 31 = .ok (.iconst 3, 1) := by decide +kernel
theorem dX11_firstSpot_32 : decode cX11_firstSpot 32 = .ok (.iload_n 2, 1) := by decide +kernel
theorem dX11_firstSpot_33 : decode cX11_firstSpot 33 = .ok (.imul, 1) := by decide +kernel
theorem dX11_firstSpot_34 : decode cX11_firstSpot 34 = .ok (.iadd, 1) := by decide +kernel
theorem dX11_firstSpot_35 : decode cX11_firstSpot 35 = .ok (.iconst 1, 1) := by decide +kernel
theorem dX11_firstSpot_36 : decode cX11_firstSpot 36 = .ok (.iadd, 1) := by decide +kernel
theorem dX11_firstSpot_37 : decode cX11_firstSpot 37 = .ok (.iaload, 1) := by decide +kernel
theorem dX11_firstSpot_38 : decode cX11_firstSpot 38 = .ok (.invokestatic 57, 3) := by decide +kernel
theorem dX11_firstSpot_41 : decode cX11_firstSpot 41 = .ok (.ifCond .eq 5, 3) := by decide +kernel
theorem dX11_firstSpot_44 : decode cX11_firstSpot 44 = .ok (.iload_n 2, 1) := by decide +kernel
theorem dX11_firstSpot_45 : decode cX11_firstSpot 45 = .ok (.ireturn, 1) := by decide +kernel
theorem dX11_firstSpot_46 : decode cX11_firstSpot 46 = .ok (.iinc 2 1, 3) := by decide +kernel
theorem dX11_firstSpot_49 : decode cX11_firstSpot 49 = .ok (.goto (-47), 3) := by decide +kernel
theorem dX11_firstSpot_52 : decode cX11_firstSpot 52 = .ok (.iconst (-1), 1) := by decide +kernel
theorem dX11_firstSpot_53 : decode cX11_firstSpot 53 = .ok (.ireturn, 1) := by decide +kernel
theorem dX11_result_0 : decode cX11_result 0 = .ok (.aload_n 0, 1) := by decide +kernel
theorem dX11_result_1 : decode cX11_result 1 = .ok (.getfield 7, 3) := by decide +kernel
theorem dX11_result_4 : decode cX11_result 4 = .ok (.iconst 0, 1) := by decide +kernel
theorem dX11_result_5 : decode cX11_result 5 = .ok (.iaload, 1) := by decide +kernel
theorem dX11_result_6 : decode cX11_result 6 = .ok (.ifCond .le 5, 3) := by decide +kernel
theorem dX11_result_9 : decode cX11_result 9 = .ok (.iconst 0, 1) := by decide +kernel
theorem dX11_result_10 : decode cX11_result 10 = .ok (.ireturn, 1) := by decide +kernel
theorem dX11_result_11 : decode cX11_result 11 = .ok (.aload_n 0, 1) := by decide +kernel
theorem dX11_result_12 : decode cX11_result 12 = .ok (.aload_n 0, 1) := by decide +kernel
theorem dX11_result_13 : decode cX11_result 13 = .ok (.getfield 7, 3) := by decide +kernel
theorem dX11_result_16 : decode cX11_result 16 = .ok (.iconst 2, 1) := by decide +kernel
theorem dX11_result_17 : decode cX11_result 17 = .ok (.iaload, 1) := by decide +kernel
theorem dX11_result_18 : decode cX11_result 18 = .ok (.invokevirtual 122, 3) := by decide +kernel
theorem dX11_result_21 : decode cX11_result 21 = .ok (.istore_n 1, 1) := by decide +kernel
theorem dX11_result_22 : decode cX11_result 22 = .ok (.iload_n 1, 1) := by decide +kernel
theorem dX11_result_23 : decode cX11_result 23 = .ok (.iconst (-1), 1) := by decide +kernel
theorem dX11_result_24 : decode cX11_result 24 = .ok (.if_icmp .ne 7, 3) := by decide +kernel
theorem dX11_result_27 : decode cX11_result 27 = .ok (.iconst 3, 1) := by decide +kernel
theorem dX11_result_28 : decode cX11_result 28 = .ok (.goto 30, 3) := by decide +kernel
theorem dX11_result_31 : decode cX11_result 31 = .ok (.aload_n 0, 1) := by decide +kernel
theorem dX11_result_32 : decode cX11_result 32 = .ok (.getfield 7, 3) := by decide +kernel
theorem dX11_result_35 : decode cX11_result 35 = .ok (.iconst 1, 1) := by decide +kernel
theorem dX11_result_36 : decode cX11_result 36 = .ok (.iaload, 1) := by decide +kernel
theorem dX11_result_37 : decode cX11_result 37 = .ok (.aload_n 0, 1) := by decide +kernel
theorem dX11_result_38 : decode cX11_result 38 = .ok (.getfield 7, 3) := by decide +kernel
theorem dX11_result_41 : decode cX11_result 41 = .ok (.bipush 124, 2) := by decide +kernel
theorem dX11_result_43 : decode cX11_result 43 = .ok (.iconst 3, 1) := by decide +kernel
theorem dX11_result_44 : decode cX11_result 44 = .ok (.iload_n 1, 1) := by decide +kernel
theorem dX11_result_45 : decode cX11_result 45 = .ok (.imul, 1) := by decide +kernel
theorem dX11_result_46 : decode cX11_result 46 = .ok (.iadd, 1) := by decide +kernel
theorem dX11_result_47 : decode cX11_result 47 = .ok (.iconst 2, 1) := by decide +kernel
theorem dX11_result_48 : decode cX11_result 48 = .ok (.iadd, 1) := by decide +kernel
theorem dX11_result_49 : decode cX11_result 49 = .ok (.iaload, 1) := by decide +kernel
theorem dX11_result_50 : decode cX11_result 50 = .ok (.if_icmp .gt 7, 3) := by decide +kernel
theorem dX11_result_53 : decode cX11_result 53 = .ok (.iconst 1, 1) := by decide +kernel
theorem dX11_result_54 : decode cX11_result 54 = .ok (.goto 4, 3) := by decide +kernel
theorem dX11_result_57 : decode cX11_result 57 = .ok (.iconst 2, 1) := by decide +kernel
theorem dX11_result_58 : decode cX11_result 58 = .ok (.ireturn, 1) := by decide +kernel
theorem dX11_brakes_0 : decode cX11_brakes 0 = .ok (.aload_n 0, 1) := by decide +kernel
theorem dX11_brakes_1 : decode cX11_brakes 1 = .ok (.invokevirtual 75, 3) := by decide +kernel
theorem dX11_brakes_4 : decode cX11_brakes 4 = .ok (.istore_n 1, 1) := by decide +kernel
theorem dX11_brakes_5 : decode cX11_brakes 5 = .ok (.iload_n 1, 1) := by decide +kernel
theorem dX11_brakes_6 : decode cX11_brakes 6 = .ok (.iconst (-1), 1) := by decide +kernel
theorem dX11_brakes_7 : decode cX11_brakes 7 = .ok (.if_icmp .eq 11, 3) := by decide +kernel
theorem dX11_brakes_10 : decode cX11_brakes 10 = .ok (.aload_n 0, 1) := by decide +kernel
theorem dX11_brakes_11 : decode cX11_brakes 11 = .ok (.iload_n 1, 1) := by decide +kernel
theorem dX11_brakes_12 : decode cX11_brakes 12 = .ok (.invokevirtual 125, 3) := by decide +kernel
theorem dX11_brakes_15 : decode cX11_brakes 15 = .ok (.goto 14, 3) := by decide +kernel
theorem dX11_brakes_18 : decode cX11_brakes 18 = .ok (.aload_n 0, 1) := by decide +kernel
theorem dX11_brakes_19 : decode cX11_brakes 19 = .ok (.invokevirtual 129, 3) := by decide +kernel
theorem dX11_brakes_22 : decode cX11_brakes 22 = .ok (.ifCond .eq 7, 3) := by decide +kernel
theorem dX11_brakes_25 : decode cX11_brakes 25 = .ok (.aload_n 0, 1) := by decide +kernel
theorem dX11_brakes_26 : decode cX11_brakes 26 = .ok (.invokevirtual 133, 3) := by decide +kernel
theorem dX11_brakes_29 : decode cX11_brakes 29 = .ok (.return_, 1) := by decide +kernel
theorem dX11_second_0 : decode cX11_second 0 = .ok (.aload_n 0, 1) := by decide +kernel
theorem dX11_second_1 : decode cX11_second 1 = .ok (.getfield 7, 3) := by decide +kernel
theorem dX11_second_4 : decode cX11_second 4 = .ok (.iconst 0, 1) := by decide +kernel
theorem dX11_second_5 : decode cX11_second 5 = .ok (.iaload, 1) := by decide +kernel
theorem dX11_second_6 : decode cX11_second 6 = .ok (.invokestatic 86, 3) := by decide +kernel
theorem dX11_second_9 : decode cX11_second 9 = .ok (.istore_n 1, 1) := by decide +kernel
theorem dX11_second_10 : decode cX11_second 10 = .ok (.aload_n 0, 1) := by decide +kernel
theorem dX11_second_11 : decode cX11_second 11 = .ok (.invokevirtual 136, 3) := by decide +kernel
theorem dX11_second_14 : decode cX11_second 14 = .ok (.ifCond .eq 7, 3) := by decide +kernel
theorem dX11_second_17 : decode cX11_second 17 = .ok (.aload_n 0, 1) := by decide +kernel
theorem dX11_second_18 : decode cX11_second 18 = .ok (.invokevirtual 139, 3) := by decide +kernel
theorem dX11_second_21 : decode cX11_second 21 = .ok (.ldc2_w 142, 3) := by decide +kernel
theorem dX11_second_24 : decode cX11_second 24 = .ok (.iload_n 1, 1) := by decide +kernel
theorem dX11_second_25 : decode cX11_second 25 = .ok (.i2l, 1) := by decide +kernel
theorem dX11_second_26 : decode cX11_second 26 = .ok (.lmul, 1) := by decide +kernel
theorem dX11_second_27 : decode cX11_second 27 = .ok (.aload_n 0, 1) := by decide +kernel
theorem dX11_second_28 : decode cX11_second 28 = .ok (.getfield 7, 3) := by decide +kernel
theorem dX11_second_31 : decode cX11_second 31 = .ok (.iconst 1, 1) := by decide +kernel
theorem dX11_second_32 : decode cX11_second 32 = .ok (.iaload, 1) := by decide +kernel
theorem dX11_second_33 : decode cX11_second 33 = .ok (.i2l, 1) := by decide +kernel
theorem dX11_second_34 : decode cX11_second 34 = .ok (.lmul, 1) := by decide +kernel
theorem dX11_second_35 : decode cX11_second 35 = .ok (.aload_n 0, 1) := by decide +kernel
theorem dX11_second_36 : decode cX11_second 36 = .ok (.getfield 7, 3) := by decide +kernel
theorem dX11_second_39 : decode cX11_second 39 = .ok (.iconst 1, 1) := by decide +kernel
theorem dX11_second_40 : decode cX11_second 40 = .ok (.iaload, 1) := by decide +kernel
theorem dX11_second_41 : decode cX11_second 41 = .ok (.i2l, 1) := by decide +kernel
theorem dX11_second_42 : decode cX11_second 42 = .ok (.lmul, 1) := by decide +kernel
theorem dX11_second_43 : decode cX11_second 43 = .ok (.ldc2_w 89, 3) := by decide +kernel
theorem dX11_second_46 : decode cX11_second 46 = .ok (.ldiv, 1) := by decide +kernel
theorem dX11_second_47 : decode cX11_second 47 = .ok (.lstore_n 2, 1) := by decide +kernel
theorem dX11_second_48 : decode cX11_second 48 = .ok (.iconst 0, 1) := by decide +kernel
theorem dX11_second_49 : decode cX11_second 49 = .ok (.istore 4, 2) := by decide +kernel
theorem dX11_second_51 : decode cX11_second 51 = .ok (.iconst 0, 1) := by decide +kernel
theorem dX11_second_52 : decode cX11_second 52 = .ok (.istore 5, 2) := by decide +kernel
theorem dX11_second_54 : decode cX11_second 54 = .ok (.iload 5, 2) := by decide +kernel
theorem dX11_second_56 : decode cX11_second 56 = .ok (.bipush 9, 2) := by decide +kernel
theorem dX11_second_58 : decode cX11_second 58 = .ok (.if_icmp .ge 73, 3) := by decide +kernel
theorem dX11_second_61 : decode cX11_second 61 = .ok (.aload_n 0, 1) := by decide +kernel
theorem dX11_second_62 : decode cX11_second 62 = .ok (.iload 5, 2) := by decide +kernel
theorem dX11_second_64 : decode cX11_second 64 = .ok (.invokevirtual 65, 3) := by decide +kernel
theorem dX11_second_67 : decode cX11_second 67 = .ok (.ifCond .eq 23, 3) := by decide +kernel
theorem dX11_second_70 : decode cX11_second 70 = .ok (.aload_n 0, 1) := by decide +kernel
theorem dX11_second_71 : decode cX11_second 71 = .ok (.getfield 7, 3) := by decide +kernel
theorem dX11_second_74 : decode cX11_second 74 = .ok (.bipush 65, 2) := by decide +kernel
theorem dX11_second_76 : decode cX11_second 76 = .ok (.iload 5, 2) := by decide +kernel
theorem dX11_second_78 : decode cX11_second 78 = .ok (.iadd, 1) := by decide +kernel
theorem dX11_second_79 : decode cX11_second 79 = .ok (.iaload, 1) := by decide +kernel
theorem dX11_second_80 : decode cX11_second 80 = .ok (.iconst 1, 1) := by decide +kernel
theorem dX11_second_81 : decode cX11_second 81 = .ok (.if_icmp .ne 9, 3) := by decide +kernel
theorem dX11_second_84 : decode cX11_second 84 = .ok (.aload_n 0, 1) := by decide +kernel
theorem dX11_second_85 : decode cX11_second 85 = .ok (.iload 5, 2) := by decide +kernel
theorem dX11_second_87 : decode cX11_second 87 = .ok (.invokevirtual 144, 3) := by decide +kernel
theorem dX11_second_90 : decode cX11_second 90 = .ok (.aload_n 0, 1) := by decide +kernel
theorem dX11_second_91 : decode cX11_second 91 = .ok (.iload 5, 2) := by decide +kernel
theorem dX11_second_93 : decode cX11_second 93 = .ok (.invokevirtual 65, 3) := by decide +kernel
theorem dX11_second_96 : decode cX11_second 96 = .ok (.ifCond .eq 29, 3) := by decide +kernel
theorem dX11_second_99 : decode cX11_second 99 = .ok (.aload_n 0, 1) := by decide +kernel
theorem dX11_second_100 : decode cX11_second 100 = .ok (.getfield 7, 3) := by decide +kernel
theorem dX11_second_103 : decode cX11_second 103 = .ok (.bipush 65, 2) := by decide +kernel
theorem dX11_second_105 : decode cX11_second 105 = .ok (.iload 5, 2) := by decide +kernel
theorem dX11_second_107 : decode cX11_second 107 = .ok (.iadd, 1) := by decide +kernel
theorem dX11_second_108 : decode cX11_second 108 = .ok (.iaload, 1) := by decide +kernel
theorem dX11_second_109 : decode cX11_second 109 = .ok (.iconst 1, 1) := by decide +kernel
theorem dX11_second_110 : decode cX11_second 110 = .ok (.if_icmp .ne 15, 3) := by decide +kernel
theorem dX11_second_113 : decode cX11_second 113 = .ok (.lload_n 2, 1) := by decide +kernel
theorem dX11_second_114 : decode cX11_second 114 = .ok (.aload_n 0, 1) := by decide +kernel
theorem dX11_second_115 : decode cX11_second 115 = .ok (.iload 5, 2) := by decide +kernel
theorem dX11_second_117 : decode cX11_second 117 = .ok (.invokevirtual 91, 3) := by decide +kernel
theorem dX11_second_120 : decode cX11_second 120 = .ok (.ladd, 1) := by decide +kernel
theorem dX11_second_121 : decode cX11_second 121 = .ok (.lstore_n 2, 1) := by decide +kernel
theorem dX11_second_122 : decode cX11_second 122 = .ok (.iconst 1, 1) := by decide +kernel
theorem dX11_second_123 : decode cX11_second 123 = .ok (.istore 4, 2) := by decide +kernel
theorem dX11_second_125 : decode cX11_second 125 = .ok (.iinc 5 1, 3) := by decide +kernel
theorem dX11_second_128 : decode cX11_second 128 = .ok (.goto (-74), 3) := by decide +kernel
theorem dX11_second_131 : decode cX11_second 131 = .ok (.aload_n 0, 1) := by decide +kernel
theorem dX11_second_132 : decode cX11_second 132 = .ok (.getfield 7, 3) := by decide +kernel
theorem dX11_second_135 : decode cX11_second 135 = .ok (.iconst 1, 1) := by decide +kernel
theorem dX11_second_136 : decode cX11_second 136 = .ok (.iaload, 1) := by decide +kernel
theorem dX11_second_137 : decode cX11_second 137 = .ok (.bipush 10, 2) := by decide +kernel
theorem dX11_second_139 : decode cX11_second 139 = .ok (.iadd, 1) := by decide +kernel
theorem dX11_second_140 : decode cX11_second 140 = .ok (.i2l, 1) := by decide +kernel
theorem dX11_second_141 : decode cX11_second 141 = .ok (.lload_n 2, 1) := by decide +kernel
theorem dX11_second_142 : decode cX11_second 142 = .ok (.aload_n 0, 1) := by decide +kernel
theorem dX11_second_143 : decode cX11_second 143 = .ok (.getfield 7, 3) := by decide +kernel
theorem dX11_second_146 : decode cX11_second 146 = .ok (.iconst 3, 1) := by decide +kernel
theorem dX11_second_147 : decode cX11_second 147 = .ok (.iaload, 1) := by decide +kernel
theorem dX11_second_148 : decode cX11_second 148 = .ok (.i2l, 1) := by decide +kernel
theorem dX11_second_149 : decode cX11_second 149 = .ok (.ldiv, 1) := by decide +kernel
theorem dX11_second_150 : decode cX11_second 150 = .ok (.lsub, 1) := by decide +kernel
theorem dX11_second_151 : decode cX11_second 151 = .ok (.lstore 5, 2) := by decide +kernel
theorem dX11_second_153 : decode cX11_second 153 = .ok (.aload_n 0, 1) := by decide +kernel
theorem dX11_second_154 : decode cX11_second 154 = .ok (.getfield 7, 3) := by decide +kernel
theorem dX11_second_157 : decode cX11_second 157 = .ok (.iconst 1, 1) := by decide +kernel
theorem dX11_second_158 : decode cX11_second 158 = .ok (.lconst 1, 1) := by decide +kernel
theorem dX11_second_159 : decode cX11_second 159 = .ok (.lload 5, 2) := by decide +kernel
theorem dX11_second_161 : decode cX11_second 161 = .ok (.aload_n 0, 1) := by decide +kernel
theorem dX11_second_162 : decode cX11_second 162 = .ok (.getfield 7, 3) := by decide +kernel
theorem dX11_second_165 : decode cX11_second 165 = .ok (.iconst 1, 1) := by decide +kernel
theorem dX11_second_166 : decode cX11_second 166 = .ok (.iaload, 1) := by decide +kernel
theorem dX11_second_167 : decode cX11_second 167 = .ok (.iconst 2, 1) := by decide +kernel
theorem dX11_second_168 : decode cX11_second 168 = .ok (.idiv, 1) := by decide +kernel
theorem dX11_second_169 : decode cX11_second 169 = .ok (.i2l, 1) := by decide +kernel
theorem dX11_second_170 : decode cX11_second 170 = .ok (.invokestatic 147, 3) := by decide +kernel
theorem dX11_second_173 : decode cX11_second 173 = .ok (.invokestatic 147, 3) := by decide +kernel
theorem dX11_second_176 : decode cX11_second 176 = .ok (.l2i, 1) := by decide +kernel
theorem dX11_second_177 : decode cX11_second 177 = .ok (.iastore, 1) := by decide +kernel
theorem dX11_second_178 : decode cX11_second 178 = .ok (.aload_n 0, 1) := by decide +kernel
theorem dX11_second_179 : decode cX11_second 179 = .ok (.getfield 7, 3) := by decide +kernel
theorem dX11_second_182 : decode cX11_second 182 = .ok (.iconst 1, 1) := by decide +kernel
theorem dX11_second_183 : decode cX11_second 183 = .ok (.iaload, 1) := by decide +kernel
theorem dX11_second_184 : decode cX11_second 184 = .ok (.i2l, 1) := by decide +kernel
theorem dX11_second_185 : decode cX11_second 185 = .ok (.aload_n 0, 1) := by decide +kernel
theorem dX11_second_186 : decode cX11_second 186 = .ok (.getfield 7, 3) := by decide +kernel
theorem dX11_second_189 : decode cX11_second 189 = .ok (.iconst 1, 1) := by decide +kernel
theorem dX11_second_190 : decode cX11_second 190 = .ok (.iaload, 1) := by decide +kernel
theorem dX11_second_191 : decode cX11_second 191 = .ok (.i2l, 1) := by decide +kernel
theorem dX11_second_192 : decode cX11_second 192 = .ok (.lmul, 1) := by decide +kernel
theorem dX11_second_193 : decode cX11_second 193 = .ok (.iload_n 1, 1) := by decide +kernel
theorem dX11_second_194 : decode cX11_second 194 = .ok (.i2l, 1) := by decide +kernel
theorem dX11_second_195 : decode cX11_second 195 = .ok (.lmul, 1) := by decide +kernel
theorem dX11_second_196 : decode cX11_second 196 = .ok (.ldc2_w 153, 3) := by decide +kernel
theorem dX11_second_199 : decode cX11_second 199 = .ok (.ldiv, 1) := by decide +kernel
theorem dX11_second_200 : decode cX11_second 200 = .ok (.l2i, 1) := by decide +kernel
theorem dX11_second_201 : decode cX11_second 201 = .ok (.istore 7, 2) := by decide +kernel
theorem dX11_second_203 : decode cX11_second 203 = .ok (.aload_n 0, 1) := by decide +kernel
theorem dX11_second_204 : decode cX11_second 204 = .ok (.getfield 7, 3) := by decide +kernel
theorem dX11_second_207 : decode cX11_second 207 = .ok (.bipush 14, 2) := by decide +kernel
theorem dX11_second_209 : decode cX11_second 209 = .ok (.dup2, 1) := by decide +kernel
theorem dX11_second_210 : decode cX11_second 210 = .ok (.iaload, 1) := by decide +kernel
theorem dX11_second_211 : decode cX11_second 211 = .ok (.iload 7, 2) := by decide +kernel
theorem dX11_second_213 : decode cX11_second 213 = .ok (.iadd, 1) := by decide +kernel
theorem dX11_second_214 : decode cX11_second 214 = .ok (.iastore, 1) := by decide +kernel
theorem dX11_second_215 : decode cX11_second 215 = .ok (.aload_n 0, 1) := by decide +kernel
theorem dX11_second_216 : decode cX11_second 216 = .ok (.getfield 7, 3) := by decide +kernel
theorem dX11_second_219 : decode cX11_second 219 = .ok (.iconst 4, 1) := by decide +kernel
theorem dX11_second_220 : decode cX11_second 220 = .ok (.sipush 999, 3) := by decide +kernel
theorem dX11_second_223 : decode cX11_second 223 = .ok (.iconst 0, 1) := by decide +kernel
theorem dX11_second_224 : decode cX11_second 224 = .ok (.aload_n 0, 1) := by decide +kernel
theorem dX11_second_225 : decode cX11_second 225 = .ok (.getfield 7, 3) := by decide +kernel
theorem dX11_second_228 : decode cX11_second 228 = .ok (.iconst 4, 1) := by decide +kernel
theorem dX11_second_229 : decode cX11_second 229 = .ok (.iaload, 1) := by decide +kernel
theorem dX11_second_230 : decode cX11_second 230 = .ok (.iload 7, 2) := by decide +kernel
theorem dX11_second_232 : decode cX11_second 232 = .ok (.iadd, 1) := by decide +kernel
theorem dX11_second_233 : decode cX11_second 233 = .ok (.aload_n 0, 1) := by decide +kernel
theorem dX11_second_234 : decode cX11_second 234 = .ok (.getfield 7, 3) := by decide +kernel
theorem dX11_second_237 : decode cX11_second 237 = .ok (.bipush 7, 2) := by decide +kernel
theorem dX11_second_239 : decode cX11_second 239 = .ok (.iaload, 1) := by decide +kernel
theorem dX11_second_240 : decode cX11_second 240 = .ok (.isub, 1) := by decide +kernel
theorem dX11_second_241 : decode cX11_second 241 = .ok (.invokestatic 155, 3) := by decide +kernel
theorem dX11_second_244 : decode cX11_second 244 = .ok (.invokestatic 158, 3) := by decide +kernel
theorem dX11_second_247 : decode cX11_second 247 = .ok (.iastore, 1) := by decide +kernel
theorem dX11_second_248 : decode cX11_second 248 = .ok (.iload 4, 2) := by decide +kernel
theorem dX11_second_250 : decode cX11_second 250 = .ok (.ifCond .eq 29, 3) := by decide +kernel
theorem dX11_second_253 : decode cX11_second 253 = .ok (.aload_n 0, 1) := by decide +kernel
theorem dX11_second_254 : decode cX11_second 254 = .ok (.getfield 7, 3) := by decide +kernel
theorem dX11_second_257 : decode cX11_second 257 = .ok (.iconst 2, 1) := by decide +kernel
theorem dX11_second_258 : decode cX11_second 258 = .ok (.dup2, 1) := by decide +kernel
theorem dX11_second_259 : decode cX11_second 259 = .ok (.iaload, 1) := by decide +kernel
theorem dX11_second_260 : decode cX11_second 260 = .ok (.aload_n 0, 1) := by decide +kernel
theorem dX11_second_261 : decode cX11_second 261 = .ok (.aload_n 0, 1) := by decide +kernel
theorem dX11_second_262 : decode cX11_second 262 = .ok (.getfield 7, 3) := by decide +kernel
theorem dX11_second_265 : decode cX11_second 265 = .ok (.iconst 0, 1) := by decide +kernel
theorem dX11_second_266 : decode cX11_second 266 = .ok (.iaload, 1) := by decide +kernel
theorem dX11_second_267 : decode cX11_second 267 = .ok (.invokevirtual 161, 3) := by decide +kernel
theorem dX11_second_270 : decode cX11_second 270 = .ok (.aload_n 0, 1) := by decide +kernel
theorem dX11_second_271 : decode cX11_second 271 = .ok (.getfield 7, 3) := by decide +kernel
theorem dX11_second_274 : decode cX11_second 274 = .ok (.iconst 5, 1) := by decide +kernel
theorem dX11_second_275 : decode cX11_second 275 = .ok (.iaload, 1) := by decide +kernel
theorem dX11_second_276 : decode cX11_second 276 = .ok (.iadd, 1) := by decide +kernel
theorem dX11_second_277 : decode cX11_second 277 = .ok (.iadd, 1) := by decide +kernel
theorem dX11_second_278 : decode cX11_second 278 = .ok (.iastore, 1) := by decide +kernel
theorem dX11_second_279 : decode cX11_second 279 = .ok (.aload_n 0, 1) := by decide +kernel
theorem dX11_second_280 : decode cX11_second 280 = .ok (.getfield 7, 3) := by decide +kernel
theorem dX11_second_283 : decode cX11_second 283 = .ok (.iconst 0, 1) := by decide +kernel
theorem dX11_second_284 : decode cX11_second 284 = .ok (.iaload, 1) := by decide +kernel
theorem dX11_second_285 : decode cX11_second 285 = .ok (.aload_n 0, 1) := by decide +kernel
theorem dX11_second_286 : decode cX11_second 286 = .ok (.getfield 7, 3) := by decide +kernel
theorem dX11_second_289 : decode cX11_second 289 = .ok (.iconst 1, 1) := by decide +kernel
theorem dX11_second_290 : decode cX11_second 290 = .ok (.iaload, 1) := by decide +kernel
theorem dX11_second_291 : decode cX11_second 291 = .ok (.invokestatic 158, 3) := by decide +kernel
theorem dX11_second_294 : decode cX11_second 294 = .ok (.istore 8, 2) := by decide +kernel
theorem dX11_second_296 : decode cX11_second 296 = .ok (.aload_n 0, 1) := by decide +kernel
theorem dX11_second_297 : decode cX11_second 297 = .ok (.getfield 7, 3) := by decide +kernel
theorem dX11_second_300 : decode cX11_second 300 = .ok (.iconst 0, 1) := by decide +kernel
theorem dX11_second_301 : decode cX11_second 301 = .ok (.dup2, 1) := by decide +kernel
theorem dX11_second_302 : decode cX11_second 302 = .ok (.iaload, 1) := by decide +kernel
theorem dX11_second_303 : decode cX11_second 303 = .ok (.iload 8, 2) := by decide +kernel
theorem dX11_second_305 : decode cX11_second 305 = .ok (.isub, 1) := by decide +kernel
theorem dX11_second_306 : decode cX11_second 306 = .ok (.iastore, 1) := by decide +kernel
theorem dX11_second_307 : decode cX11_second 307 = .ok (.aload_n 0, 1) := by decide +kernel
theorem dX11_second_308 : decode cX11_second 308 = .ok (.getfield 7, 3) := by decide +kernel
theorem dX11_second_311 : decode cX11_second 311 = .ok (.bipush 13, 2) := by decide +kernel
theorem dX11_second_313 : decode cX11_second 313 = .ok (.dup2, 1) := by decide +kernel
theorem dX11_second_314 : decode cX11_second 314 = .ok (.iaload, 1) := by decide +kernel
theorem dX11_second_315 : decode cX11_second 315 = .ok (.iload 8, 2) := by decide +kernel
theorem dX11_second_317 : decode cX11_second 317 = .ok (.iadd, 1) := by decide +kernel
theorem dX11_second_318 : decode cX11_second 318 = .ok (.iastore, 1) := by decide +kernel
theorem dX11_second_319 : decode cX11_second 319 = .ok (.aload_n 0, 1) := by decide +kernel
theorem dX11_second_320 : decode cX11_second 320 = .ok (.getfield 7, 3) := by decide +kernel
theorem dX11_second_323 : decode cX11_second 323 = .ok (.iconst 0, 1) := by decide +kernel
theorem dX11_second_324 : decode cX11_second 324 = .ok (.iaload, 1) := by decide +kernel
theorem dX11_second_325 : decode cX11_second 325 = .ok (.ifCond .ne 14, 3) := by decide +kernel
theorem dX11_second_328 : decode cX11_second 328 = .ok (.aload_n 0, 1) := by decide +kernel
theorem dX11_second_329 : decode cX11_second 329 = .ok (.bipush 6, 2) := by decide +kernel
theorem dX11_second_331 : decode cX11_second 331 = .ok (.iconst (-1), 1) := by decide +kernel
theorem dX11_second_332 : decode cX11_second 332 = .ok (.aload_n 0, 1) := by decide +kernel
theorem dX11_second_333 : decode cX11_second 333 = .ok (.invokevirtual 164, 3) := by decide +kernel
theorem dX11_second_336 : decode cX11_second 336 = .ok (.invokevirtual 82, 3) := by decide +kernel
theorem dX11_second_339 : decode cX11_second 339 = .ok (.aload_n 0, 1) := by decide +kernel
theorem dX11_second_340 : decode cX11_second 340 = .ok (.getfield 7, 3) := by decide +kernel
theorem dX11_second_343 : decode cX11_second 343 = .ok (.bipush 6, 2) := by decide +kernel
theorem dX11_second_345 : decode cX11_second 345 = .ok (.dup2, 1) := by decide +kernel
theorem dX11_second_346 : decode cX11_second 346 = .ok (.iaload, 1) := by decide +kernel
theorem dX11_second_347 : decode cX11_second 347 = .ok (.iconst 1, 1) := by decide +kernel
theorem dX11_second_348 : decode cX11_second 348 = .ok (.iadd, 1) := by decide +kernel
theorem dX11_second_349 : decode cX11_second 349 = .ok (.iastore, 1) := by decide +kernel
theorem dX11_second_350 : decode cX11_second 350 = .ok (.return_, 1) := by decide +kernel
theorem dX11_seconds_0 : decode cX11_seconds 0 = .ok (.iconst 0, 1) := by decide +kernel
theorem dX11_seconds_1 : decode cX11_seconds 1 = .ok (.istore_n 3, 1) := by decide +kernel
theorem dX11_seconds_2 : decode cX11_seconds 2 = .ok (.iload_n 3, 1) := by decide +kernel
theorem dX11_seconds_3 : decode cX11_seconds 3 = .ok (.iload_n 1, 1) := by decide +kernel
theorem dX11_seconds_4 : decode cX11_seconds 4 = .ok (.if_icmp .ge 23, 3) := by decide +kernel
theorem dX11_seconds_7 : decode cX11_seconds 7 = .ok (.aload_n 0, 1) := by decide +kernel
theorem dX11_seconds_8 : decode cX11_seconds 8 = .ok (.getfield 7, 3) := by decide +kernel
theorem dX11_seconds_11 : decode cX11_seconds 11 = .ok (.iconst 0, 1) := by decide +kernel
theorem dX11_seconds_12 : decode cX11_seconds 12 = .ok (.iaload, 1) := by decide +kernel
theorem dX11_seconds_13 : decode cX11_seconds 13 = .ok (.iload_n 2, 1) := by decide +kernel
theorem dX11_seconds_14 : decode cX11_seconds 14 = .ok (.if_icmp .le 13, 3) := by decide +kernel
theorem dX11_seconds_17 : decode cX11_seconds 17 = .ok (.aload_n 0, 1) := by decide +kernel
theorem dX11_seconds_18 : decode cX11_seconds 18 = .ok (.invokevirtual 167, 3) := by decide +kernel
theorem dX11_seconds_21 : decode cX11_seconds 21 = .ok (.iinc 3 1, 3) := by decide +kernel
theorem dX11_seconds_24 : decode cX11_seconds 24 = .ok (.goto (-22), 3) := by decide +kernel
theorem dX11_seconds_27 : decode cX11_seconds 27 = .ok (.iload_n 3, 1) := by decide +kernel
theorem dX11_seconds_28 : decode cX11_seconds 28 = .ok (.ireturn, 1) := by decide +kernel
theorem dX11_noPart_0 : decode cX11_noPart 0 = .ok (.aload_n 0, 1) := by decide +kernel
theorem dX11_noPart_1 : decode cX11_noPart 1 = .ok (.iconst 0, 1) := by decide +kernel
theorem dX11_noPart_2 : decode cX11_noPart 2 = .ok (.putfield 50, 3) := by decide +kernel
theorem dX11_noPart_5 : decode cX11_noPart 5 = .ok (.aload_n 0, 1) := by decide +kernel
theorem dX11_noPart_6 : decode cX11_noPart 6 = .ok (.iload_n 1, 1) := by decide +kernel
theorem dX11_noPart_7 : decode cX11_noPart 7 = .ok (.iconst 0, 1) := by decide +kernel
theorem dX11_noPart_8 : decode cX11_noPart 8 = .ok (.iload_n 2, 1) := by decide +kernel
theorem dX11_noPart_9 : decode cX11_noPart 9 = .ok (.invokestatic 57, 3) := by decide +kernel
theorem dX11_noPart_12 : decode cX11_noPart 12 = .ok (.ifCond .ne 7, 3) := by decide +kernel
theorem dX11_noPart_15 : decode cX11_noPart 15 = .ok (.iconst 1, 1) := by decide +kernel
theorem dX11_noPart_16 : decode cX11_noPart 16 = .ok (.goto 4, 3) := by decide +kernel
theorem dX11_noPart_19 : decode cX11_noPart 19 = .ok (.iconst 0, 1) := by decide +kernel
theorem dX11_noPart_20 : decode cX11_noPart 20 = .ok (.iconst 1, 1) := by decide +kernel
theorem dX11_noPart_21 : decode cX11_noPart 21 = .ok (.invokevirtual 61, 3) := by decide +kernel
theorem dX11_noPart_24 : decode cX11_noPart 24 = .ok (.ireturn, 1) := by decide +kernel
theorem dX11_capsule_0 : decode cX11_capsule 0 = .ok (.aload_n 0, 1) := by decide +kernel
theorem dX11_capsule_1 : decode cX11_capsule 1 = .ok (.iload_n 1, 1) := by decide +kernel
theorem dX11_capsule_2 : decode cX11_capsule 2 = .ok (.bipush 8, 2) := by decide +kernel
theorem dX11_capsule_4 : decode cX11_capsule 4 = .ok (.invokevirtual 170, 3) := by decide +kernel
theorem dX11_capsule_7 : decode cX11_capsule 7 = .ok (.ifCond .eq 5, 3) := by decide +kernel
theorem dX11_capsule_10 : decode cX11_capsule 10 = .ok (.iconst 0, 1) := by decide +kernel
theorem dX11_capsule_11 : decode cX11_capsule 11 = .ok (.ireturn, 1) := by decide +kernel
theorem dX11_capsule_12 : decode cX11_capsule 12 = .ok (.iload_n 1, 1) := by decide +kernel
theorem dX11_capsule_13 : decode cX11_capsule 13 = .ok (.bipush 7, 2) := by decide +kernel
theorem dX11_capsule_15 : decode cX11_capsule 15 = .ok (.if_icmp .ne 15, 3) := by decide +kernel
theorem dX11_capsule_18 : decode cX11_capsule 18 = .ok (.aload_n 0, 1) := by decide +kernel
theorem dX11_capsule_19 : decode cX11_capsule 19 = .ok (.getfield 7, 3) := by decide +kernel
theorem dX11_capsule_22 : decode cX11_capsule 22 = .ok (.iconst 0, 1) := by decide +kernel
theorem dX11_capsule_23 : decode cX11_capsule 23 = .ok (.iaload, 1) := by decide +kernel
theorem dX11_capsule_24 : decode cX11_capsule 24 = .ok (.invokestatic 86, 3) := by decide +kernel
theorem dX11_capsule_27 : decode cX11_capsule 27 = .ok (.goto 22, 3) := by decide +kernel
theorem dX11_capsule_30 : decode cX11_capsule 30 = .ok (.iload_n 1, 1) := by decide +kernel
theorem dX11_capsule_31 : decode cX11_capsule 31 = .ok (.bipush 8, 2) := by decide +kernel
theorem dX11_capsule_33 : decode cX11_capsule 33 = .ok (.if_icmp .ne 10, 3) := by decide +kernel
theorem dX11_capsule_36 : decode cX11_capsule 36 = .ok (.aload_n 0, 1) := by decide +kernel
theorem dX11_capsule_37 : decode cX11_capsule 37 = .ok (.invokevirtual 164, 3) := by decide +kernel
theorem dX11_capsule_40 : decode cX11_capsule 40 = .ok (.goto 9, 3) := by decide +kernel
theorem dX11_capsule_43 : decode cX11_capsule 43 = .ok (.aload_n 0, 1) := by decide +kernel
theorem dX11_capsule_44 : decode cX11_capsule 44 = .ok (.getfield 7, 3) := by decide +kernel
theorem dX11_capsule_47 : decode cX11_capsule 47 = .ok (.iload_n 1, 1) := by decide +kernel
theorem dX11_capsule_48 : decode cX11_capsule 48 = .ok (.iaload, 1) := by decide +kernel
theorem dX11_capsule_49 : decode cX11_capsule 49 = .ok (.ireturn, 1) := by decide +kernel
theorem dX11_allLines_0 : decode cX11_allLines 0 = .ok (.iconst 0, 1) := by decide +kernel
theorem dX11_allLines_1 : decode cX11_allLines 1 = .ok (.istore_n 1, 1) := by decide +kernel
theorem dX11_allLines_2 : decode cX11_allLines 2 = .ok (.iconst 0, 1) := by decide +kernel
theorem dX11_allLines_3 : decode cX11_allLines 3 = .ok (.istore_n 2, 1) := by decide +kernel
theorem dX11_allLines_4 : decode cX11_allLines 4 = .ok (.iload_n 2, 1) := by decide +kernel
theorem dX11_allLines_5 : decode cX11_allLines 5 = .ok (.bipush 9, 2) := by decide +kernel
theorem dX11_allLines_7 : decode cX11_allLines 7 = .ok (.if_icmp .ge 33, 3) := by decide +kernel
theorem dX11_allLines_10 : decode cX11_allLines 10 = .ok (.iload_n 1, 1) := by decide +kernel
theorem dX11_allLines_11 : decode cX11_allLines 11 = .ok (.aload_n 0, 1) := by decide +kernel
theorem dX11_allLines_12 : decode cX11_allLines 12 = .ok (.iload_n 2, 1) := by decide +kernel
theorem dX11_allLines_13 : decode cX11_allLines 13 = .ok (.invokevirtual 65, 3) := by decide +kernel
theorem dX11_allLines_16 : decode cX11_allLines 16 = .ok (.ifCond .eq 15, 3) := by decide +kernel
theorem dX11_allLines_19 : decode cX11_allLines 19 = .ok (.aload_n 0, 1) := by decide +kernel
theorem dX11_allLines_20 : decode cX11_allLines 20 = .ok (.getfield 7, 3) := by decide +kernel
theorem dX11_allLines_23 : decode cX11_allLines 23 = .ok (.bipush 29, 2) := by decide +kernel
theorem dX11_allLines_25 : decode cX11_allLines 25 = .ok (.iload_n 2, 1) := by decide +kernel
theorem dX11_allLines_26 : decode cX11_allLines 26 = .ok (.iadd, 1) := by decide +kernel
theorem dX11_allLines_27 : decode cX11_allLines 27 = .ok (.iaload, 1) := by decide +kernel
theorem dX11_allLines_28 : decode cX11_allLines 28 = .ok (.goto 4, 3) := by decide +kernel
theorem dX11_allLines_31 : decode cX11_allLines 31 = .ok (.iconst 0, 1) := by decide +kernel
theorem dX11_allLines_32 : decode cX11_allLines 32 = .ok (.iadd, 1) := by decide +kernel
theorem dX11_allLines_33 : decode cX11_allLines 33 = .ok (.istore_n 1, 1) := by decide +kernel
theorem dX11_allLines_34 : decode cX11_allLines 34 = .ok (.iinc 2 1, 3) := by decide +kernel
theorem dX11_allLines_37 : decode cX11_allLines 37 = .ok (.goto (-33), 3) := by decide +kernel
theorem dX11_allLines_40 : decode cX11_allLines 40 = .ok (.iload_n 1, 1) := by decide +kernel
theorem dX11_allLines_41 : decode cX11_allLines 41 = .ok (.ireturn, 1) := by decide +kernel
theorem dX11_linesThere_0 : decode cX11_linesThere 0 = .ok (.iconst 0, 1) := by decide +kernel
theorem dX11_linesThere_1 : decode cX11_linesThere 1 = .ok (.istore_n 1, 1) := by decide +kernel
theorem dX11_linesThere_2 : decode cX11_linesThere 2 = .ok (.iconst 0, 1) := by decide +kernel
theorem dX11_linesThere_3 : decode cX11_linesThere 3 = .ok (.istore_n 2, 1) := by decide +kernel
theorem dX11_linesThere_4 : decode cX11_linesThere 4 = .ok (.iload_n 2, 1) := by decide +kernel
theorem dX11_linesThere_5 : decode cX11_linesThere 5 = .ok (.bipush 9, 2) := by decide +kernel
theorem dX11_linesThere_7 : decode cX11_linesThere 7 = .ok (.if_icmp .ge 49, 3) := by decide +kernel
theorem dX11_linesThere_10 : decode cX11_linesThere 10 = .ok (.iload_n 1, 1) := by decide +kernel
theorem dX11_linesThere_11 : decode cX11_linesThere 11 = .ok (.aload_n 0, 1) := by decide +kernel
theorem dX11_linesThere_12 : decode cX11_linesThere 12 = .ok (.iload_n 2, 1) := by decide +kernel
theorem dX11_linesThere_13 : decode cX11_linesThere 13 = .ok (.invokevirtual 65, 3) := by decide +kernel
theorem dX11_linesThere_16 : decode cX11_linesThere 16 = .ok (.ifCond .eq 31, 3) := by decide +kernel
theorem dX11_linesThere_19 : decode cX11_linesThere 19 = .ok (.aload_n 0, 1) := by decide +kernel
theorem dX11_linesThere_20 : decode cX11_linesThere 20 = .ok (.getfield 7, 3) := by decide +kernel
theorem dX11_linesThere_23 : decode cX11_linesThere 23 = .ok (.bipush 65, 2) := by decide +kernel
theorem dX11_linesThere_25 : decode cX11_linesThere 25 = .ok (.iload_n 2, 1) := by decide +kernel
theorem dX11_linesThere_26 : decode cX11_linesThere 26 = .ok (.iadd, 1) := by decide +kernel
theorem dX11_linesThere_27 : decode cX11_linesThere 27 = .ok (.iaload, 1) := by decide +kernel
theorem dX11_linesThere_28 : decode cX11_linesThere 28 = .ok (.iconst 4, 1) := by decide +kernel
theorem dX11_linesThere_29 : decode cX11_linesThere 29 = .ok (.if_icmp .eq 18, 3) := by decide +kernel
theorem dX11_linesThere_32 : decode cX11_linesThere 32 = .ok (.aload_n 0, 1) := by decide +kernel
theorem dX11_linesThere_33 : decode cX11_linesThere 33 = .ok (.getfield 7, 3) := by decide +kernel
theorem dX11_linesThere_36 : decode cX11_linesThere 36 = .ok (.bipush 74, 2) := by decide +kernel
theorem dX11_linesThere_38 : decode cX11_linesThere 38 = .ok (.iload_n 2, 1) := by decide +kernel
theorem dX11_linesThere_39 : decode cX11_linesThere 39 = .ok (.iadd, 1) := by decide +kernel
theorem dX11_linesThere_40 : decode cX11_linesThere 40 = .ok (.iaload, 1) := by decide +kernel
theorem dX11_linesThere_41 : decode cX11_linesThere 41 = .ok (.invokestatic 100, 3) := by decide +kernel
theorem dX11_linesThere_44 : decode cX11_linesThere 44 = .ok (.goto 4, 3) := by decide +kernel
theorem dX11_linesThere_47 : decode cX11_linesThere 47 = .ok (.iconst 0, 1) := by decide +kernel
theorem dX11_linesThere_48 : decode cX11_linesThere 48 = .ok (.iadd, 1) := by decide +kernel
theorem dX11_linesThere_49 : decode cX11_linesThere 49 = .ok (.istore_n 1, 1) := by decide +kernel
theorem dX11_linesThere_50 : decode cX11_linesThere 50 = .ok (.iinc 2 1, 3) := by decide +kernel
theorem dX11_linesThere_53 : decode cX11_linesThere 53 = .ok (.goto (-49), 3) := by decide +kernel
theorem dX11_linesThere_56 : decode cX11_linesThere 56 = .ok (.iload_n 1, 1) := by decide +kernel
theorem dX11_linesThere_57 : decode cX11_linesThere 57 = .ok (.ireturn, 1) := by decide +kernel
theorem dX11_size_0 : decode cX11_size 0 = .ok (.aload_n 0, 1) := by decide +kernel
theorem dX11_size_1 : decode cX11_size 1 = .ok (.iload_n 1, 1) := by decide +kernel
theorem dX11_size_2 : decode cX11_size 2 = .ok (.bipush 15, 2) := by decide +kernel
theorem dX11_size_4 : decode cX11_size 4 = .ok (.invokevirtual 170, 3) := by decide +kernel
theorem dX11_size_7 : decode cX11_size 7 = .ok (.ifCond .eq 5, 3) := by decide +kernel
theorem dX11_size_10 : decode cX11_size 10 = .ok (.iconst 0, 1) := by decide +kernel
theorem dX11_size_11 : decode cX11_size 11 = .ok (.ireturn, 1) := by decide +kernel
theorem dX11_size_12 : decode cX11_size 12 = .ok (.iload_n 1, 1) := by decide +kernel
theorem dX11_size_13 : decode cX11_size 13 = .ok (.tableswitch 191 0 14 #[75, 83, 91, 99, 107, 115, 123, 129, 134, 142, 147, 152, 157, 175, 183], 75) := by decide +kernel
theorem dX11_size_88 : decode cX11_size 88 = .ok (.aload_n 0, 1) := by decide +kernel
theorem dX11_size_89 : decode cX11_size 89 = .ok (.getfield 7, 3) := by decide +kernel
theorem dX11_size_92 : decode cX11_size 92 = .ok (.bipush 8, 2) := by decide +kernel
theorem dX11_size_94 : decode cX11_size 94 = .ok (.iaload, 1) := by decide +kernel
theorem dX11_size_95 : decode cX11_size 95 = .ok (.ireturn, 1) := by decide +kernel
theorem dX11_size_96 : decode cX11_size 96 = .ok (.aload_n 0, 1) := by decide +kernel
theorem dX11_size_97 : decode cX11_size 97 = .ok (.getfield 7, 3) := by decide +kernel
theorem dX11_size_100 : decode cX11_size 100 = .ok (.bipush 9, 2) := by decide +kernel
theorem dX11_size_102 : decode cX11_size 102 = .ok (.iaload, 1) := by decide +kernel
theorem dX11_size_103 : decode cX11_size 103 = .ok (.ireturn, 1) := by decide +kernel
theorem dX11_size_104 : decode cX11_size 104 = .ok (.aload_n 0, 1) := by decide +kernel
theorem dX11_size_105 : decode cX11_size 105 = .ok (.getfield 7, 3) := by decide +kernel
theorem dX11_size_108 : decode cX11_size 108 = .ok (.bipush 10, 2) := by decide +kernel
theorem dX11_size_110 : decode cX11_size 110 = .ok (.iaload, 1) := by decide +kernel
theorem dX11_size_111 : decode cX11_size 111 = .ok (.ireturn, 1) := by decide +kernel
theorem dX11_size_112 : decode cX11_size 112 = .ok (.aload_n 0, 1) := by decide +kernel
theorem dX11_size_113 : decode cX11_size 113 = .ok (.getfield 7, 3) := by decide +kernel
theorem dX11_size_116 : decode cX11_size 116 = .ok (.bipush 11, 2) := by decide +kernel
theorem dX11_size_118 : decode cX11_size 118 = .ok (.iaload, 1) := by decide +kernel
theorem dX11_size_119 : decode cX11_size 119 = .ok (.ireturn, 1) := by decide +kernel
theorem dX11_size_120 : decode cX11_size 120 = .ok (.aload_n 0, 1) := by decide +kernel
theorem dX11_size_121 : decode cX11_size 121 = .ok (.getfield 7, 3) := by decide +kernel
theorem dX11_size_124 : decode cX11_size 124 = .ok (.bipush 12, 2) := by decide +kernel
theorem dX11_size_126 : decode cX11_size 126 = .ok (.iaload, 1) := by decide +kernel
theorem dX11_size_127 : decode cX11_size 127 = .ok (.ireturn, 1) := by decide +kernel
theorem dX11_size_128 : decode cX11_size 128 = .ok (.aload_n 0, 1) := by decide +kernel
theorem dX11_size_129 : decode cX11_size 129 = .ok (.getfield 7, 3) := by decide +kernel
theorem dX11_size_132 : decode cX11_size 132 = .ok (.bipush 7, 2) := by decide +kernel
theorem dX11_size_134 : decode cX11_size 134 = .ok (.iaload, 1) := by decide +kernel
theorem dX11_size_135 : decode cX11_size 135 = .ok (.ireturn, 1) := by decide +kernel
theorem dX11_size_136 : decode cX11_size 136 = .ok (.aload_n 0, 1) := by decide +kernel
theorem dX11_size_137 : decode cX11_size 137 = .ok (.iconst 1, 1) := by decide +kernel
theorem dX11_size_138 : decode cX11_size 138 = .ok (.invokevirtual 173, 3) := by decide +kernel
theorem dX11_size_141 : decode cX11_size 141 = .ok (.ireturn, 1) := by decide +kernel
theorem dX11_size_142 : decode cX11_size 142 = .ok (.aload_n 0, 1) := by decide +kernel
theorem dX11_size_143 : decode cX11_size 143 = .ok (.invokevirtual 72, 3) := by decide +kernel
theorem dX11_size_146 : decode cX11_size 146 = .ok (.ireturn, 1) := by decide +kernel
theorem dX11_size_147 : decode cX11_size 147 = .ok (.aload_n 0, 1) := by decide +kernel
theorem dX11_size_148 : decode cX11_size 148 = .ok (.getfield 7, 3) := by decide +kernel
theorem dX11_size_151 : decode cX11_size 151 = .ok (.bipush 16, 2) := by decide +kernel
theorem dX11_size_153 : decode cX11_size 153 = .ok (.iaload, 1) := by decide +kernel
theorem dX11_size_154 : decode cX11_size 154 = .ok (.ireturn, 1) := by decide +kernel
theorem dX11_size_155 : decode cX11_size 155 = .ok (.aload_n 0, 1) := by decide +kernel
theorem dX11_size_156 : decode cX11_size 156 = .ok (.getfield 176, 3) := by decide +kernel
theorem dX11_size_159 : decode cX11_size 159 = .ok (.ireturn, 1) := by decide +kernel
theorem dX11_size_160 : decode cX11_size 160 = .ok (.aload_n 0, 1) := by decide +kernel
theorem dX11_size_161 : decode cX11_size 161 = .ok (.invokevirtual 179, 3) := by decide +kernel
theorem dX11_size_164 : decode cX11_size 164 = .ok (.ireturn, 1) := by decide +kernel
theorem dX11_size_165 : decode cX11_size 165 = .ok (.aload_n 0, 1) := by decide +kernel
theorem dX11_size_166 : decode cX11_size 166 = .ok (.invokevirtual 182, 3) := by decide +kernel
theorem dX11_size_169 : decode cX11_size 169 = .ok (.ireturn, 1) := by decide +kernel
theorem dX11_size_170 : decode cX11_size 170 = .ok (.aload_n 0, 1) := by decide +kernel
theorem dX11_size_171 : decode cX11_size 171 = .ok (.invokevirtual 179, 3) := by decide +kernel
theorem dX11_size_174 : decode cX11_size 174 = .ok (.aload_n 0, 1) := by decide +kernel
theorem dX11_size_175 : decode cX11_size 175 = .ok (.invokevirtual 182, 3) := by decide +kernel
theorem dX11_size_178 : decode cX11_size 178 = .ok (.isub, 1) := by decide +kernel
theorem dX11_size_179 : decode cX11_size 179 = .ok (.aload_n 0, 1) := by decide +kernel
theorem dX11_size_180 : decode cX11_size 180 = .ok (.getfield 7, 3) := by decide +kernel
theorem dX11_size_183 : decode cX11_size 183 = .ok (.bipush 15, 2) := by decide +kernel
theorem dX11_size_185 : decode cX11_size 185 = .ok (.iaload, 1) := by decide +kernel
theorem dX11_size_186 : decode cX11_size 186 = .ok (.isub, 1) := by decide +kernel
theorem dX11_size_187 : decode cX11_size 187 = .ok (.ireturn, 1) := by decide +kernel
theorem dX11_size_188 : decode cX11_size 188 = .ok (.aload_n 0, 1) := by decide +kernel
theorem dX11_size_189 : decode cX11_size 189 = .ok (.getfield 7, 3) := by decide +kernel
theorem dX11_size_192 : decode cX11_size 192 = .ok (.bipush 15, 2) := by decide +kernel
theorem dX11_size_194 : decode cX11_size 194 = .ok (.iaload, 1) := by decide +kernel
theorem dX11_size_195 : decode cX11_size 195 = .ok (.ireturn, 1) := by decide +kernel
theorem dX11_size_196 : decode cX11_size 196 = .ok (.aload_n 0, 1) := by decide +kernel
theorem dX11_size_197 : decode cX11_size 197 = .ok (.getfield 7, 3) := by decide +kernel
theorem dX11_size_200 : decode cX11_size 200 = .ok (.bipush 13, 2) := by decide +kernel
theorem dX11_size_202 : decode cX11_size 202 = .ok (.iaload, 1) := by decide +kernel
theorem dX11_size_203 : decode cX11_size 203 = .ok (.ireturn, 1) := by decide +kernel
theorem dX11_size_204 : decode cX11_size 204 = .ok (.aload_n 0, 1) := by decide +kernel
theorem dX11_size_205 : decode cX11_size 205 = .ok (.getfield 7, 3) := by decide +kernel
theorem dX11_size_208 : decode cX11_size 208 = .ok (.bipush 14, 2) := by decide +kernel
theorem dX11_size_210 : decode cX11_size 210 = .ok (.iaload, 1) := by decide +kernel
theorem dX11_size_211 : decode cX11_size 211 = .ok (.ireturn, 1) := by decide +kernel
theorem dX11_chute_0 : decode cX11_chute 0 = .ok (.aload_n 0, 1) := by decide +kernel
theorem dX11_chute_1 : decode cX11_chute 1 = .ok (.iconst 0, 1) := by decide +kernel
theorem dX11_chute_2 : decode cX11_chute 2 = .ok (.putfield 50, 3) := by decide +kernel
theorem dX11_chute_5 : decode cX11_chute 5 = .ok (.aload_n 0, 1) := by decide +kernel
theorem dX11_chute_6 : decode cX11_chute 6 = .ok (.iload_n 1, 1) := by decide +kernel
theorem dX11_chute_7 : decode cX11_chute 7 = .ok (.invokevirtual 185, 3) := by decide +kernel
theorem dX11_chute_10 : decode cX11_chute 10 = .ok (.ifCond .ne 26, 3) := by decide +kernel
theorem dX11_chute_13 : decode cX11_chute 13 = .ok (.aload_n 0, 1) := by decide +kernel
theorem dX11_chute_14 : decode cX11_chute 14 = .ok (.iload_n 2, 1) := by decide +kernel
theorem dX11_chute_15 : decode cX11_chute 15 = .ok (.iconst 0, 1) := by decide +kernel
theorem dX11_chute_16 : decode cX11_chute 16 = .ok (.bipush 7, 2) := by decide +kernel
theorem dX11_chute_18 : decode cX11_chute 18 = .ok (.invokestatic 57, 3) := by decide +kernel
theorem dX11_chute_21 : decode cX11_chute 21 = .ok (.ifCond .ne 7, 3) := by decide +kernel
theorem dX11_chute_24 : decode cX11_chute 24 = .ok (.iconst 1, 1) := by decide +kernel
theorem dX11_chute_25 : decode cX11_chute 25 = .ok (.goto 4, 3) := by decide +kernel
theorem dX11_chute_28 : decode cX11_chute 28 = .ok (.iconst 0, 1) := by decide +kernel
theorem dX11_chute_29 : decode cX11_chute 29 = .ok (.iconst 2, 1) := by decide +kernel
theorem dX11_chute_30 : decode cX11_chute 30 = .ok (.invokevirtual 61, 3) := by decide +kernel
theorem dX11_chute_33 : decode cX11_chute 33 = .ok (.ifCond .eq 5, 3) := by decide +kernel
theorem dX11_chute_36 : decode cX11_chute 36 = .ok (.iconst 0, 1) := by decide +kernel
theorem dX11_chute_37 : decode cX11_chute 37 = .ok (.ireturn, 1) := by decide +kernel
theorem dX11_chute_38 : decode cX11_chute 38 = .ok (.aload_n 0, 1) := by decide +kernel
theorem dX11_chute_39 : decode cX11_chute 39 = .ok (.iload_n 1, 1) := by decide +kernel
theorem dX11_chute_40 : decode cX11_chute 40 = .ok (.invokevirtual 188, 3) := by decide +kernel
theorem dX11_chute_43 : decode cX11_chute 43 = .ok (.istore_n 3, 1) := by decide +kernel
theorem dX11_chute_44 : decode cX11_chute 44 = .ok (.iload_n 2, 1) := by decide +kernel
theorem dX11_chute_45 : decode cX11_chute 45 = .ok (.bipush 6, 2) := by decide +kernel
theorem dX11_chute_47 : decode cX11_chute 47 = .ok (.if_icmp .ne 33, 3) := by decide +kernel
theorem dX11_chute_50 : decode cX11_chute 50 = .ok (.aload_n 0, 1) := by decide +kernel
theorem dX11_chute_51 : decode cX11_chute 51 = .ok (.getfield 7, 3) := by decide +kernel
theorem dX11_chute_54 : decode cX11_chute 54 = .ok (.bipush 65, 2) := by decide +kernel
theorem dX11_chute_56 : decode cX11_chute 56 = .ok (.iload_n 3, 1) := by decide +kernel
theorem dX11_chute_57 : decode cX11_chute 57 = .ok (.iadd, 1) := by decide +kernel
theorem dX11_chute_58 : decode cX11_chute 58 = .ok (.iaload, 1) := by decide +kernel
theorem dX11_chute_59 : decode cX11_chute 59 = .ok (.iconst 4, 1) := by decide +kernel
theorem dX11_chute_60 : decode cX11_chute 60 = .ok (.if_icmp .ne 7, 3) := by decide +kernel
theorem dX11_chute_63 : decode cX11_chute 63 = .ok (.iconst 0, 1) := by decide +kernel
theorem dX11_chute_64 : decode cX11_chute 64 = .ok (.goto 15, 3) := by decide +kernel
theorem dX11_chute_67 : decode cX11_chute 67 = .ok (.aload_n 0, 1) := by decide +kernel
theorem dX11_chute_68 : decode cX11_chute 68 = .ok (.getfield 7, 3) := by decide +kernel
theorem dX11_chute_71 : decode cX11_chute 71 = .ok (.bipush 74, 2) := by decide +kernel
theorem dX11_chute_73 : decode cX11_chute 73 = .ok (.iload_n 3, 1) := by decide +kernel
theorem dX11_chute_74 : decode cX11_chute 74 = .ok (.iadd, 1) := by decide +kernel
theorem dX11_chute_75 : decode cX11_chute 75 = .ok (.iaload, 1) := by decide +kernel
theorem dX11_chute_76 : decode cX11_chute 76 = .ok (.invokestatic 100, 3) := by decide +kernel
theorem dX11_chute_79 : decode cX11_chute 79 = .ok (.ireturn, 1) := by decide +kernel
theorem dX11_chute_80 : decode cX11_chute 80 = .ok (.aload_n 0, 1) := by decide +kernel
theorem dX11_chute_81 : decode cX11_chute 81 = .ok (.getfield 7, 3) := by decide +kernel
theorem dX11_chute_84 : decode cX11_chute 84 = .ok (.bipush 20, 2) := by decide +kernel
theorem dX11_chute_86 : decode cX11_chute 86 = .ok (.bipush 9, 2) := by decide +kernel
theorem dX11_chute_88 : decode cX11_chute 88 = .ok (.iload_n 2, 1) := by decide +kernel
theorem dX11_chute_89 : decode cX11_chute 89 = .ok (.imul, 1) := by decide +kernel
theorem dX11_chute_90 : decode cX11_chute 90 = .ok (.iadd, 1) := by decide +kernel
theorem dX11_chute_91 : decode cX11_chute 91 = .ok (.iload_n 3, 1) := by decide +kernel
theorem dX11_chute_92 : decode cX11_chute 92 = .ok (.iadd, 1) := by decide +kernel
theorem dX11_chute_93 : decode cX11_chute 93 = .ok (.iaload, 1) := by decide +kernel
theorem dX11_chute_94 : decode cX11_chute 94 = .ok (.ireturn, 1) := by decide +kernel
theorem dX11_line_0 : decode cX11_line 0 = .ok (.aload_n 0, 1) := by decide +kernel
theorem dX11_line_1 : decode cX11_line 1 = .ok (.iconst 0, 1) := by decide +kernel
theorem dX11_line_2 : decode cX11_line 2 = .ok (.putfield 50, 3) := by decide +kernel
theorem dX11_line_5 : decode cX11_line 5 = .ok (.aload_n 0, 1) := by decide +kernel
theorem dX11_line_6 : decode cX11_line 6 = .ok (.iload_n 1, 1) := by decide +kernel
theorem dX11_line_7 : decode cX11_line 7 = .ok (.invokevirtual 185, 3) := by decide +kernel
theorem dX11_line_10 : decode cX11_line 10 = .ok (.ifCond .ne 39, 3) := by decide +kernel
theorem dX11_line_13 : decode cX11_line 13 = .ok (.aload_n 0, 1) := by decide +kernel
theorem dX11_line_14 : decode cX11_line 14 = .ok (.iload_n 2, 1) := by decide +kernel
theorem dX11_line_15 : decode cX11_line 15 = .ok (.iconst 0, 1) := by decide +kernel
theorem dX11_line_16 : decode cX11_line 16 = .ok (.aload_n 0, 1) := by decide +kernel
theorem dX11_line_17 : decode cX11_line 17 = .ok (.getfield 7, 3) := by decide +kernel
theorem dX11_line_20 : decode cX11_line 20 = .ok (.bipush 29, 2) := by decide +kernel
theorem dX11_line_22 : decode cX11_line 22 = .ok (.aload_n 0, 1) := by decide +kernel
theorem dX11_line_23 : decode cX11_line 23 = .ok (.iload_n 1, 1) := by decide +kernel
theorem dX11_line_24 : decode cX11_line 24 = .ok (.invokevirtual 188, 3) := by decide +kernel
theorem dX11_line_27 : decode cX11_line 27 = .ok (.iadd, 1) := by decide +kernel
theorem dX11_line_28 : decode cX11_line 28 = .ok (.iaload, 1) := by decide +kernel
theorem dX11_line_29 : decode cX11_line 29 = .ok (.iconst 1, 1) := by decide +kernel
theorem dX11_line_30 : decode cX11_line 30 = .ok (.isub, 1) := by decide +kernel
theorem dX11_line_31 : decode cX11_line 31 = .ok (.invokestatic 57, 3) := by decide +kernel
theorem dX11_line_34 : decode cX11_line 34 = .ok (.ifCond .ne 7, 3) := by decide +kernel
theorem dX11_line_37 : decode cX11_line 37 = .ok (.iconst 1, 1) := by decide +kernel
theorem dX11_line_38 : decode cX11_line 38 = .ok (.goto 4, 3) := by decide +kernel
theorem dX11_line_41 : decode cX11_line 41 = .ok (.iconst 0, 1) := by decide +kernel
theorem dX11_line_42 : decode cX11_line 42 = .ok (.iconst 1, 1) := by decide +kernel
theorem dX11_line_43 : decode cX11_line 43 = .ok (.invokevirtual 61, 3) := by decide +kernel
theorem dX11_line_46 : decode cX11_line 46 = .ok (.ifCond .eq 5, 3) := by decide +kernel
theorem dX11_line_49 : decode cX11_line 49 = .ok (.iconst 0, 1) := by decide +kernel
theorem dX11_line_50 : decode cX11_line 50 = .ok (.ireturn, 1) := by decide +kernel
theorem dX11_line_51 : decode cX11_line 51 = .ok (.aload_n 0, 1) := by decide +kernel
theorem dX11_line_52 : decode cX11_line 52 = .ok (.iload_n 1, 1) := by decide +kernel
theorem dX11_line_53 : decode cX11_line 53 = .ok (.invokevirtual 188, 3) := by decide +kernel
theorem dX11_line_56 : decode cX11_line 56 = .ok (.istore_n 3, 1) := by decide +kernel
theorem dX11_line_57 : decode cX11_line 57 = .ok (.aload_n 0, 1) := by decide +kernel
theorem dX11_line_58 : decode cX11_line 58 = .ok (.getfield 7, 3) := by decide +kernel
theorem dX11_line_61 : decode cX11_line 61 = .ok (.bipush 74, 2) := by decide +kernel
theorem dX11_line_63 : decode cX11_line 63 = .ok (.iload_n 3, 1) := by decide +kernel
theorem dX11_line_64 : decode cX11_line 64 = .ok (.iadd, 1) := by decide +kernel
theorem dX11_line_65 : decode cX11_line 65 = .ok (.iaload, 1) := by decide +kernel
theorem dX11_line_66 : decode cX11_line 66 = .ok (.iload_n 2, 1) := by decide +kernel
theorem dX11_line_67 : decode cX11_line 67 = .ok (.invokestatic 107, 3) := by decide +kernel
theorem dX11_line_70 : decode cX11_line 70 = .ok (.ifCond .eq 13, 3) := by decide +kernel
theorem dX11_line_73 : decode cX11_line 73 = .ok (.aload_n 0, 1) := by decide +kernel
theorem dX11_line_74 : decode cX11_line 74 = .ok (.iload_n 3, 1) := by decide +kernel
theorem dX11_line_75 : decode cX11_line 75 = .ok (.iload_n 2, 1) := by decide +kernel
theorem dX11_line_76 : decode cX11_line 76 = .ok (.invokevirtual 111, 3) := by decide +kernel
theorem dX11_line_79 : decode cX11_line 79 = .ok (.l2i, 1) := by decide +kernel
theorem dX11_line_80 : decode cX11_line 80 = .ok (.goto 4, 3) := by decide +kernel
theorem dX11_line_83 : decode cX11_line 83 = .ok (.iconst (-1), 1) := by decide +kernel
theorem dX11_line_84 : decode cX11_line 84 = .ok (.ireturn, 1) := by decide +kernel
theorem dX11_targetAt_0 : decode cX11_targetAt 0 = .ok (.aload_n 0, 1) := by decide +kernel
theorem dX11_targetAt_1 : decode cX11_targetAt 1 = .ok (.iload_n 1, 1) := by decide +kernel
theorem dX11_targetAt_2 : decode cX11_targetAt 2 = .ok (.sipush 30000, 3) := by decide +kernel
theorem dX11_targetAt_5 : decode cX11_targetAt 5 = .ok (.invokevirtual 170, 3) := by decide +kernel
theorem dX11_targetAt_8 : decode cX11_targetAt 8 = .ok (.ifCond .eq 7, 3) := by decide +kernel
theorem dX11_targetAt_11 : decode cX11_targetAt 11 = .ok (.iconst 0, 1) := by decide +kernel
theorem dX11_targetAt_12 : decode cX11_targetAt 12 = .ok (.goto 8, 3) := by decide +kernel
theorem dX11_targetAt_15 : decode cX11_targetAt 15 = .ok (.aload_n 0, 1) := by decide +kernel
theorem dX11_targetAt_16 : decode cX11_targetAt 16 = .ok (.iload_n 1, 1) := by decide +kernel
theorem dX11_targetAt_17 : decode cX11_targetAt 17 = .ok (.invokevirtual 78, 3) := by decide +kernel
theorem dX11_targetAt_20 : decode cX11_targetAt 20 = .ok (.ireturn, 1) := by decide +kernel
theorem dX11_windAt_0 : decode cX11_windAt 0 = .ok (.aload_n 0, 1) := by decide +kernel
theorem dX11_windAt_1 : decode cX11_windAt 1 = .ok (.iload_n 1, 1) := by decide +kernel
theorem dX11_windAt_2 : decode cX11_windAt 2 = .ok (.sipush 30000, 3) := by decide +kernel
theorem dX11_windAt_5 : decode cX11_windAt 5 = .ok (.invokevirtual 170, 3) := by decide +kernel
theorem dX11_windAt_8 : decode cX11_windAt 8 = .ok (.ifCond .eq 7, 3) := by decide +kernel
theorem dX11_windAt_11 : decode cX11_windAt 11 = .ok (.iconst 0, 1) := by decide +kernel
theorem dX11_windAt_12 : decode cX11_windAt 12 = .ok (.goto 8, 3) := by decide +kernel
theorem dX11_windAt_15 : decode cX11_windAt 15 = .ok (.aload_n 0, 1) := by decide +kernel
theorem dX11_windAt_16 : decode cX11_windAt 16 = .ok (.iload_n 1, 1) := by decide +kernel
theorem dX11_windAt_17 : decode cX11_windAt 17 = .ok (.invokevirtual 161, 3) := by decide +kernel
theorem dX11_windAt_20 : decode cX11_windAt 20 = .ok (.ireturn, 1) := by decide +kernel
theorem dX11_noSpot_0 : decode cX11_noSpot 0 = .ok (.aload_n 0, 1) := by decide +kernel
theorem dX11_noSpot_1 : decode cX11_noSpot 1 = .ok (.iload_n 1, 1) := by decide +kernel
theorem dX11_noSpot_2 : decode cX11_noSpot 2 = .ok (.iconst 0, 1) := by decide +kernel
theorem dX11_noSpot_3 : decode cX11_noSpot 3 = .ok (.aload_n 0, 1) := by decide +kernel
theorem dX11_noSpot_4 : decode cX11_noSpot 4 = .ok (.getfield 7, 3) := by decide +kernel
theorem dX11_noSpot_7 : decode cX11_noSpot 7 = .ok (.bipush 12, 2) := by decide +kernel
theorem dX11_noSpot_9 : decode cX11_noSpot 9 = .ok (.iaload, 1) := by decide +kernel
theorem dX11_noSpot_10 : decode cX11_noSpot 10 = .ok (.iconst 1, 1) := by decide +kernel
theorem dX11_noSpot_11 : decode cX11_noSpot 11 = .ok (.isub, 1) := by decide +kernel
theorem dX11_noSpot_12 : decode cX11_noSpot 12 = .ok (.invokestatic 57, 3) := by decide +kernel
theorem dX11_noSpot_15 : decode cX11_noSpot 15 = .ok (.ifCond .ne 7, 3) := by decide +kernel
theorem dX11_noSpot_18 : decode cX11_noSpot 18 = .ok (.iconst 1, 1) := by decide +kernel
theorem dX11_noSpot_19 : decode cX11_noSpot 19 = .ok (.goto 4, 3) := by decide +kernel
theorem dX11_noSpot_22 : decode cX11_noSpot 22 = .ok (.iconst 0, 1) := by decide +kernel
theorem dX11_noSpot_23 : decode cX11_noSpot 23 = .ok (.iconst 1, 1) := by decide +kernel
theorem dX11_noSpot_24 : decode cX11_noSpot 24 = .ok (.invokevirtual 61, 3) := by decide +kernel
theorem dX11_noSpot_27 : decode cX11_noSpot 27 = .ok (.ireturn, 1) := by decide +kernel
theorem dX11_spot_0 : decode cX11_spot 0 = .ok (.aload_n 0, 1) := by decide +kernel
theorem dX11_spot_1 : decode cX11_spot 1 = .ok (.iconst 0, 1) := by decide +kernel
theorem dX11_spot_2 : decode cX11_spot 2 = .ok (.putfield 50, 3) := by decide +kernel
theorem dX11_spot_5 : decode cX11_spot 5 = .ok (.aload_n 0, 1) := by decide +kernel
theorem dX11_spot_6 : decode cX11_spot 6 = .ok (.iload_n 1, 1) := by decide +kernel
theorem dX11_spot_7 : decode cX11_spot 7 = .ok (.invokevirtual 191, 3) := by decide +kernel
theorem dX11_spot_10 : decode cX11_spot 10 = .ok (.ifCond .ne 25, 3) := by decide +kernel
theorem dX11_spot_13 : decode cX11_spot 13 = .ok (.aload_n 0, 1) := by decide +kernel
theorem dX11_spot_14 : decode cX11_spot 14 = .ok (.iload_n 2, 1) := by decide +kernel
theorem dX11_spot_15 : decode cX11_spot 15 = .ok (.iconst 0, 1) := by decide +kernel
theorem dX11_spot_16 : decode cX11_spot 16 = .ok (.iconst 2, 1) := by decide +kernel
theorem dX11_spot_17 : decode cX11_spot 17 = .ok (.invokestatic 57, 3) := by decide +kernel
theorem dX11_spot_20 : decode cX11_spot 20 = .ok (.ifCond .ne 7, 3) := by decide +kernel
theorem dX11_spot_23 : decode cX11_spot 23 = .ok (.iconst 1, 1) := by decide +kernel
theorem dX11_spot_24 : decode cX11_spot 24 = .ok (.goto 4, 3) := by decide +kernel
theorem dX11_spot_27 : decode cX11_spot 27 = .ok (.iconst 0, 1) := by decide +kernel
theorem dX11_spot_28 : decode cX11_spot 28 = .ok (.iconst 2, 1) := by decide +kernel
theorem dX11_spot_29 : decode cX11_spot 29 = .ok (.invokevirtual 61, 3) := by decide +kernel
theorem dX11_spot_32 : decode cX11_spot 32 = .ok (.ifCond .eq 7, 3) := by decide +kernel
theorem dX11_spot_35 : decode cX11_spot 35 = .ok (.iconst 0, 1) := by decide +kernel
theorem dX11_spot_36 : decode cX11_spot 36 = .ok (.goto 16, 3) := by decide +kernel
theorem dX11_spot_39 : decode cX11_spot 39 = .ok (.aload_n 0, 1) := by decide +kernel
theorem dX11_spot_40 : decode cX11_spot 40 = .ok (.getfield 7, 3) := by decide +kernel
theorem dX11_spot_43 : decode cX11_spot 43 = .ok (.bipush 124, 2) := by decide +kernel
theorem dX11_spot_45 : decode cX11_spot 45 = .ok (.iconst 3, 1) := by decide +kernel
theorem dX11_spot_46 : decode cX11_spot 46 = .ok (.iload_n 1, 1) := by decide +kernel
theorem dX11_spot_47 : decode cX11_spot 47 = .ok (.imul, 1) := by decide +kernel
theorem dX11_spot_48 : decode cX11_spot 48 = .ok (.iadd, 1) := by decide +kernel
theorem dX11_spot_49 : decode cX11_spot 49 = .ok (.iload_n 2, 1) := by decide +kernel
theorem dX11_spot_50 : decode cX11_spot 50 = .ok (.iadd, 1) := by decide +kernel
theorem dX11_spot_51 : decode cX11_spot 51 = .ok (.iaload, 1) := by decide +kernel
theorem dX11_spot_52 : decode cX11_spot 52 = .ok (.ireturn, 1) := by decide +kernel
theorem dX11_event_0 : decode cX11_event 0 = .ok (.aload_n 0, 1) := by decide +kernel
theorem dX11_event_1 : decode cX11_event 1 = .ok (.iconst 0, 1) := by decide +kernel
theorem dX11_event_2 : decode cX11_event 2 = .ok (.putfield 50, 3) := by decide +kernel
theorem dX11_event_5 : decode cX11_event 5 = .ok (.aload_n 0, 1) := by decide +kernel
theorem dX11_event_6 : decode cX11_event 6 = .ok (.iload_n 1, 1) := by decide +kernel
theorem dX11_event_7 : decode cX11_event 7 = .ok (.iconst 0, 1) := by decide +kernel
theorem dX11_event_8 : decode cX11_event 8 = .ok (.aload_n 0, 1) := by decide +kernel
theorem dX11_event_9 : decode cX11_event 9 = .ok (.getfield 7, 3) := by decide +kernel
theorem dX11_event_12 : decode cX11_event 12 = .ok (.bipush 16, 2) := by decide +kernel
theorem dX11_event_14 : decode cX11_event 14 = .ok (.iaload, 1) := by decide +kernel
theorem dX11_event_15 : decode cX11_event 15 = .ok (.iconst 1, 1) := by decide +kernel
theorem dX11_event_16 : decode cX11_event 16 = .ok (.isub, 1) := by decide +kernel
theorem dX11_event_17 : decode cX11_event 17 = .ok (.invokestatic 57, 3) := by decide +kernel
theorem dX11_event_20 : decode cX11_event 20 = .ok (.ifCond .ne 7, 3) := by decide +kernel
theorem dX11_event_23 : decode cX11_event 23 = .ok (.iconst 1, 1) := by decide +kernel
theorem dX11_event_24 : decode cX11_event 24 = .ok (.goto 4, 3) := by decide +kernel
theorem dX11_event_27 : decode cX11_event 27 = .ok (.iconst 0, 1) := by decide +kernel
theorem dX11_event_28 : decode cX11_event 28 = .ok (.iconst 1, 1) := by decide +kernel
theorem dX11_event_29 : decode cX11_event 29 = .ok (.invokevirtual 61, 3) := by decide +kernel
theorem dX11_event_32 : decode cX11_event 32 = .ok (.ifCond .ne 25, 3) := by decide +kernel
theorem dX11_event_35 : decode cX11_event 35 = .ok (.aload_n 0, 1) := by decide +kernel
theorem dX11_event_36 : decode cX11_event 36 = .ok (.iload_n 2, 1) := by decide +kernel
theorem dX11_event_37 : decode cX11_event 37 = .ok (.iconst 0, 1) := by decide +kernel
theorem dX11_event_38 : decode cX11_event 38 = .ok (.iconst 3, 1) := by decide +kernel
theorem dX11_event_39 : decode cX11_event 39 = .ok (.invokestatic 57, 3) := by decide +kernel
theorem dX11_event_42 : decode cX11_event 42 = .ok (.ifCond .ne 7, 3) := by decide +kernel
theorem dX11_event_45 : decode cX11_event 45 = .ok (.iconst 1, 1) := by decide +kernel
theorem dX11_event_46 : decode cX11_event 46 = .ok (.goto 4, 3) := by decide +kernel
theorem dX11_event_49 : decode cX11_event 49 = .ok (.iconst 0, 1) := by decide +kernel
theorem dX11_event_50 : decode cX11_event 50 = .ok (.iconst 2, 1) := by decide +kernel
theorem dX11_event_51 : decode cX11_event 51 = .ok (.invokevirtual 61, 3) := by decide +kernel
theorem dX11_event_54 : decode cX11_event 54 = .ok (.ifCond .eq 7, 3) := by decide +kernel
theorem dX11_event_57 : decode cX11_event 57 = .ok (.iconst 0, 1) := by decide +kernel
theorem dX11_event_58 : decode cX11_event 58 = .ok (.goto 17, 3) := by decide +kernel
theorem dX11_event_61 : decode cX11_event 61 = .ok (.aload_n 0, 1) := by decide +kernel
theorem dX11_event_62 : decode cX11_event 62 = .ok (.getfield 7, 3) := by decide +kernel
theorem dX11_event_65 : decode cX11_event 65 = .ok (.sipush 148, 3) := by decide +kernel
theorem dX11_event_68 : decode cX11_event 68 = .ok (.iconst 4, 1) := by decide +kernel
theorem dX11_event_69 : decode cX11_event 69 = .ok (.iload_n 1, 1) := by decide +kernel
theorem dX11_event_70 : decode cX11_event 70 = .ok (.imul, 1) := by decide +kernel
theorem dX11_event_71 : decode cX11_event 71 = .ok (.iadd, 1) := by decide +kernel
theorem dX11_event_72 : decode cX11_event 72 = .ok (.iload_n 2, 1) := by decide +kernel
theorem dX11_event_73 : decode cX11_event 73 = .ok (.iadd, 1) := by decide +kernel
theorem dX11_event_74 : decode cX11_event 74 = .ok (.iaload, 1) := by decide +kernel
theorem dX11_event_75 : decode cX11_event 75 = .ok (.ireturn, 1) := by decide +kernel
theorem dX11_account_0 : decode cX11_account 0 = .ok (.aload_n 0, 1) := by decide +kernel
theorem dX11_account_1 : decode cX11_account 1 = .ok (.iload_n 1, 1) := by decide +kernel
theorem dX11_account_2 : decode cX11_account 2 = .ok (.bipush 9, 2) := by decide +kernel
theorem dX11_account_4 : decode cX11_account 4 = .ok (.invokevirtual 170, 3) := by decide +kernel
theorem dX11_account_7 : decode cX11_account 7 = .ok (.ifCond .eq 7, 3) := by decide +kernel
theorem dX11_account_10 : decode cX11_account 10 = .ok (.iconst 0, 1) := by decide +kernel
theorem dX11_account_11 : decode cX11_account 11 = .ok (.goto 9, 3) := by decide +kernel
theorem dX11_account_14 : decode cX11_account 14 = .ok (.aload_n 0, 1) := by decide +kernel
theorem dX11_account_15 : decode cX11_account 15 = .ok (.getfield 29, 3) := by decide +kernel
theorem dX11_account_18 : decode cX11_account 18 = .ok (.iload_n 1, 1) := by decide +kernel
theorem dX11_account_19 : decode cX11_account 19 = .ok (.iaload, 1) := by decide +kernel
theorem dX11_account_20 : decode cX11_account 20 = .ok (.ireturn, 1) := by decide +kernel
theorem dX11_asks_0 : decode cX11_asks 0 = .ok (.aload_n 0, 1) := by decide +kernel
theorem dX11_asks_1 : decode cX11_asks 1 = .ok (.iconst 0, 1) := by decide +kernel
theorem dX11_asks_2 : decode cX11_asks 2 = .ok (.putfield 50, 3) := by decide +kernel
theorem dX11_asks_5 : decode cX11_asks 5 = .ok (.aload_n 0, 1) := by decide +kernel
theorem dX11_asks_6 : decode cX11_asks 6 = .ok (.invokevirtual 136, 3) := by decide +kernel
theorem dX11_asks_9 : decode cX11_asks 9 = .ok (.ireturn, 1) := by decide +kernel
theorem dX11_whyOf_0 : decode cX11_whyOf 0 = .ok (.aload_n 0, 1) := by decide +kernel
theorem dX11_whyOf_1 : decode cX11_whyOf 1 = .ok (.invokevirtual 75, 3) := by decide +kernel
theorem dX11_whyOf_4 : decode cX11_whyOf 4 = .ok (.istore_n 2, 1) := by decide +kernel
theorem dX11_whyOf_5 : decode cX11_whyOf 5 = .ok (.aload_n 0, 1) := by decide +kernel
theorem dX11_whyOf_6 : decode cX11_whyOf 6 = .ok (.getfield 7, 3) := by decide +kernel
theorem dX11_whyOf_9 : decode cX11_whyOf 9 = .ok (.bipush 65, 2) := by decide +kernel
theorem dX11_whyOf_11 : decode cX11_whyOf 11 = .ok (.iload_n 1, 1) := by decide +kernel
theorem dX11_whyOf_12 : decode cX11_whyOf 12 = .ok (.iadd, 1) := by decide +kernel
theorem dX11_whyOf_13 : decode cX11_whyOf 13 = .ok (.iaload, 1) := by decide +kernel
theorem dX11_whyOf_14 : decode cX11_whyOf 14 = .ok (.tableswitch 38 1 4 #[30, 32, 34, 36], 30) := by decide +kernel
theorem dX11_whyOf_44 : decode cX11_whyOf 44 = .ok (.iconst 0, 1) := by decide +kernel
theorem dX11_whyOf_45 : decode cX11_whyOf 45 = .ok (.ireturn, 1) := by decide +kernel
theorem dX11_whyOf_46 : decode cX11_whyOf 46 = .ok (.iconst 1, 1) := by decide +kernel
theorem dX11_whyOf_47 : decode cX11_whyOf 47 = .ok (.ireturn, 1) := by decide +kernel
theorem dX11_whyOf_48 : decode cX11_whyOf 48 = .ok (.iconst 2, 1) := by decide +kernel
theorem dX11_whyOf_49 : decode cX11_whyOf 49 = .ok (.ireturn, 1) := by decide +kernel
theorem dX11_whyOf_50 : decode cX11_whyOf 50 = .ok (.iconst 3, 1) := by decide +kernel
theorem dX11_whyOf_51 : decode cX11_whyOf 51 = .ok (.ireturn, 1) := by decide +kernel
theorem dX11_whyOf_52 : decode cX11_whyOf 52 = .ok (.aload_n 0, 1) := by decide +kernel
theorem dX11_whyOf_53 : decode cX11_whyOf 53 = .ok (.getfield 7, 3) := by decide +kernel
theorem dX11_whyOf_56 : decode cX11_whyOf 56 = .ok (.iconst 0, 1) := by decide +kernel
theorem dX11_whyOf_57 : decode cX11_whyOf 57 = .ok (.iaload, 1) := by decide +kernel
theorem dX11_whyOf_58 : decode cX11_whyOf 58 = .ok (.aload_n 0, 1) := by decide +kernel
theorem dX11_whyOf_59 : decode cX11_whyOf 59 = .ok (.getfield 7, 3) := by decide +kernel
theorem dX11_whyOf_62 : decode cX11_whyOf 62 = .ok (.bipush 47, 2) := by decide +kernel
theorem dX11_whyOf_64 : decode cX11_whyOf 64 = .ok (.iload_n 1, 1) := by decide +kernel
theorem dX11_whyOf_65 : decode cX11_whyOf 65 = .ok (.iadd, 1) := by decide +kernel
theorem dX11_whyOf_66 : decode cX11_whyOf 66 = .ok (.iaload, 1) := by decide +kernel
theorem dX11_whyOf_67 : decode cX11_whyOf 67 = .ok (.if_icmp .le 7, 3) := by decide +kernel
theorem dX11_whyOf_70 : decode cX11_whyOf 70 = .ok (.iconst 4, 1) := by decide +kernel
theorem dX11_whyOf_71 : decode cX11_whyOf 71 = .ok (.goto 54, 3) := by decide +kernel
theorem dX11_whyOf_74 : decode cX11_whyOf 74 = .ok (.aload_n 0, 1) := by decide +kernel
theorem dX11_whyOf_75 : decode cX11_whyOf 75 = .ok (.getfield 7, 3) := by decide +kernel
theorem dX11_whyOf_78 : decode cX11_whyOf 78 = .ok (.iconst 1, 1) := by decide +kernel
theorem dX11_whyOf_79 : decode cX11_whyOf 79 = .ok (.iaload, 1) := by decide +kernel
theorem dX11_whyOf_80 : decode cX11_whyOf 80 = .ok (.aload_n 0, 1) := by decide +kernel
theorem dX11_whyOf_81 : decode cX11_whyOf 81 = .ok (.getfield 7, 3) := by decide +kernel
theorem dX11_whyOf_84 : decode cX11_whyOf 84 = .ok (.bipush 56, 2) := by decide +kernel
theorem dX11_whyOf_86 : decode cX11_whyOf 86 = .ok (.iload_n 1, 1) := by decide +kernel
theorem dX11_whyOf_87 : decode cX11_whyOf 87 = .ok (.iadd, 1) := by decide +kernel
theorem dX11_whyOf_88 : decode cX11_whyOf 88 = .ok (.iaload, 1) := by decide +kernel
theorem dX11_whyOf_89 : decode cX11_whyOf 89 = .ok (.if_icmp .le 7, 3) := by decide +kernel
theorem dX11_whyOf_92 : decode cX11_whyOf 92 = .ok (.iconst 5, 1) := by decide +kernel
theorem dX11_whyOf_93 : decode cX11_whyOf 93 = .ok (.goto 32, 3) := by decide +kernel
theorem dX11_whyOf_96 : decode cX11_whyOf 96 = .ok (.aload_n 0, 1) := by decide +kernel
theorem dX11_whyOf_97 : decode cX11_whyOf 97 = .ok (.invokevirtual 136, 3) := by decide +kernel
theorem dX11_whyOf_100 : decode cX11_whyOf 100 = .ok (.ifCond .ne 8, 3) := by decide +kernel
theorem dX11_whyOf_103 : decode cX11_whyOf 103 = .ok (.bipush 6, 2) := by decide +kernel
theorem dX11_whyOf_105 : decode cX11_whyOf 105 = .ok (.goto 20, 3) := by decide +kernel
theorem dX11_whyOf_108 : decode cX11_whyOf 108 = .ok (.iload_n 2, 1) := by decide +kernel
theorem dX11_whyOf_109 : decode cX11_whyOf 109 = .ok (.iconst (-1), 1) := by decide +kernel
theorem dX11_whyOf_110 : decode cX11_whyOf 110 = .ok (.if_icmp .eq 13, 3) := by decide +kernel
theorem dX11_whyOf_113 : decode cX11_whyOf 113 = .ok (.iload_n 2, 1) := by decide +kernel
theorem dX11_whyOf_114 : decode cX11_whyOf 114 = .ok (.iload_n 1, 1) := by decide +kernel
theorem dX11_whyOf_115 : decode cX11_whyOf 115 = .ok (.if_icmp .ge 8, 3) := by decide +kernel
theorem dX11_whyOf_118 : decode cX11_whyOf 118 = .ok (.bipush 7, 2) := by decide +kernel
theorem dX11_whyOf_120 : decode cX11_whyOf 120 = .ok (.goto 5, 3) := by decide +kernel
theorem dX11_whyOf_123 : decode cX11_whyOf 123 = .ok (.bipush 8, 2) := by decide +kernel
theorem dX11_whyOf_125 : decode cX11_whyOf 125 = .ok (.ireturn, 1) := by decide +kernel
theorem dX11_why_0 : decode cX11_why 0 = .ok (.aload_n 0, 1) := by decide +kernel
theorem dX11_why_1 : decode cX11_why 1 = .ok (.iconst 0, 1) := by decide +kernel
theorem dX11_why_2 : decode cX11_why 2 = .ok (.putfield 50, 3) := by decide +kernel
theorem dX11_why_5 : decode cX11_why 5 = .ok (.aload_n 0, 1) := by decide +kernel
theorem dX11_why_6 : decode cX11_why 6 = .ok (.iload_n 1, 1) := by decide +kernel
theorem dX11_why_7 : decode cX11_why 7 = .ok (.invokevirtual 194, 3) := by decide +kernel
theorem dX11_why_10 : decode cX11_why 10 = .ok (.ifCond .eq 7, 3) := by decide +kernel
theorem dX11_why_13 : decode cX11_why 13 = .ok (.iconst 0, 1) := by decide +kernel
theorem dX11_why_14 : decode cX11_why 14 = .ok (.goto 8, 3) := by decide +kernel
theorem dX11_why_17 : decode cX11_why 17 = .ok (.aload_n 0, 1) := by decide +kernel
theorem dX11_why_18 : decode cX11_why 18 = .ok (.iload_n 1, 1) := by decide +kernel
theorem dX11_why_19 : decode cX11_why 19 = .ok (.invokevirtual 197, 3) := by decide +kernel
theorem dX11_why_22 : decode cX11_why 22 = .ok (.ireturn, 1) := by decide +kernel
theorem dX11_whyReserve_0 : decode cX11_whyReserve 0 = .ok (.aload_n 0, 1) := by decide +kernel
theorem dX11_whyReserve_1 : decode cX11_whyReserve 1 = .ok (.iconst 0, 1) := by decide +kernel
theorem dX11_whyReserve_2 : decode cX11_whyReserve 2 = .ok (.putfield 50, 3) := by decide +kernel
theorem dX11_whyReserve_5 : decode cX11_whyReserve 5 = .ok (.aload_n 0, 1) := by decide +kernel
theorem dX11_whyReserve_6 : decode cX11_whyReserve 6 = .ok (.getfield 7, 3) := by decide +kernel
theorem dX11_whyReserve_9 : decode cX11_whyReserve 9 = .ok (.bipush 9, 2) := by decide +kernel
theorem dX11_whyReserve_11 : decode cX11_whyReserve 11 = .ok (.iaload, 1) := by decide +kernel
theorem dX11_whyReserve_12 : decode cX11_whyReserve 12 = .ok (.ifCond .ne 5, 3) := by decide +kernel
theorem dX11_whyReserve_15 : decode cX11_whyReserve 15 = .ok (.iconst 1, 1) := by decide +kernel
theorem dX11_whyReserve_16 : decode cX11_whyReserve 16 = .ok (.ireturn, 1) := by decide +kernel
theorem dX11_whyReserve_17 : decode cX11_whyReserve 17 = .ok (.aload_n 0, 1) := by decide +kernel
theorem dX11_whyReserve_18 : decode cX11_whyReserve 18 = .ok (.getfield 7, 3) := by decide +kernel
theorem dX11_whyReserve_21 : decode cX11_whyReserve 21 = .ok (.bipush 73, 2) := by decide +kernel
theorem dX11_whyReserve_23 : decode cX11_whyReserve 23 = .ok (.iaload, 1) := by decide +kernel
theorem dX11_whyReserve_24 : decode cX11_whyReserve 24 = .ok (.istore_n 1, 1) := by decide +kernel
theorem dX11_whyReserve_25 : decode cX11_whyReserve 25 = .ok (.iload_n 1, 1) := by decide +kernel
theorem dX11_whyReserve_26 : decode cX11_whyReserve 26 = .ok (.ifCond .eq 14, 3) := by decide +kernel
theorem dX11_whyReserve_29 : decode cX11_whyReserve 29 = .ok (.iload_n 1, 1) := by decide +kernel
theorem dX11_whyReserve_30 : decode cX11_whyReserve 30 = .ok (.iconst 1, 1) := by decide +kernel
theorem dX11_whyReserve_31 : decode cX11_whyReserve 31 = .ok (.if_icmp .ne 7, 3) := by decide +kernel
theorem dX11_whyReserve_34 : decode cX11_whyReserve 34 = .ok (.iconst 0, 1) := by decide +kernel
theorem dX11_whyReserve_35 : decode cX11_whyReserve 35 = .ok (.goto 4, 3) := by decide +kernel
theorem dX11_whyReserve_38 : decode cX11_whyReserve 38 = .ok (.iconst 2, 1) := by decide +kernel
theorem dX11_whyReserve_39 : decode cX11_whyReserve 39 = .ok (.ireturn, 1) := by decide +kernel
theorem dX11_whyReserve_40 : decode cX11_whyReserve 40 = .ok (.aload_n 0, 1) := by decide +kernel
theorem dX11_whyReserve_41 : decode cX11_whyReserve 41 = .ok (.getfield 7, 3) := by decide +kernel
theorem dX11_whyReserve_44 : decode cX11_whyReserve 44 = .ok (.iconst 0, 1) := by decide +kernel
theorem dX11_whyReserve_45 : decode cX11_whyReserve 45 = .ok (.iaload, 1) := by decide +kernel
theorem dX11_whyReserve_46 : decode cX11_whyReserve 46 = .ok (.aload_n 0, 1) := by decide +kernel
theorem dX11_whyReserve_47 : decode cX11_whyReserve 47 = .ok (.getfield 7, 3) := by decide +kernel
theorem dX11_whyReserve_50 : decode cX11_whyReserve 50 = .ok (.bipush 55, 2) := by decide +kernel
theorem dX11_whyReserve_52 : decode cX11_whyReserve 52 = .ok (.iaload, 1) := by decide +kernel
theorem dX11_whyReserve_53 : decode cX11_whyReserve 53 = .ok (.if_icmp .le 7, 3) := by decide +kernel
theorem dX11_whyReserve_56 : decode cX11_whyReserve 56 = .ok (.iconst 3, 1) := by decide +kernel
theorem dX11_whyReserve_57 : decode cX11_whyReserve 57 = .ok (.goto 47, 3) := by decide +kernel
theorem dX11_whyReserve_60 : decode cX11_whyReserve 60 = .ok (.aload_n 0, 1) := by decide +kernel
theorem dX11_whyReserve_61 : decode cX11_whyReserve 61 = .ok (.invokevirtual 72, 3) := by decide +kernel
theorem dX11_whyReserve_64 : decode cX11_whyReserve 64 = .ok (.aload_n 0, 1) := by decide +kernel
theorem dX11_whyReserve_65 : decode cX11_whyReserve 65 = .ok (.getfield 7, 3) := by decide +kernel
theorem dX11_whyReserve_68 : decode cX11_whyReserve 68 = .ok (.bipush 64, 2) := by decide +kernel
theorem dX11_whyReserve_70 : decode cX11_whyReserve 70 = .ok (.iaload, 1) := by decide +kernel
theorem dX11_whyReserve_71 : decode cX11_whyReserve 71 = .ok (.if_icmp .ge 7, 3) := by decide +kernel
theorem dX11_whyReserve_74 : decode cX11_whyReserve 74 = .ok (.iconst 4, 1) := by decide +kernel
theorem dX11_whyReserve_75 : decode cX11_whyReserve 75 = .ok (.goto 29, 3) := by decide +kernel
theorem dX11_whyReserve_78 : decode cX11_whyReserve 78 = .ok (.aload_n 0, 1) := by decide +kernel
theorem dX11_whyReserve_79 : decode cX11_whyReserve 79 = .ok (.invokevirtual 75, 3) := by decide +kernel
theorem dX11_whyReserve_82 : decode cX11_whyReserve 82 = .ok (.iconst (-1), 1) := by decide +kernel
theorem dX11_whyReserve_83 : decode cX11_whyReserve 83 = .ok (.if_icmp .eq 7, 3) := by decide +kernel
theorem dX11_whyReserve_86 : decode cX11_whyReserve 86 = .ok (.iconst 5, 1) := by decide +kernel
theorem dX11_whyReserve_87 : decode cX11_whyReserve 87 = .ok (.goto 17, 3) := by decide +kernel
theorem dX11_whyReserve_90 : decode cX11_whyReserve 90 = .ok (.aload_n 0, 1) := by decide +kernel
theorem dX11_whyReserve_91 : decode cX11_whyReserve 91 = .ok (.invokevirtual 136, 3) := by decide +kernel
theorem dX11_whyReserve_94 : decode cX11_whyReserve 94 = .ok (.ifCond .ne 8, 3) := by decide +kernel
theorem dX11_whyReserve_97 : decode cX11_whyReserve 97 = .ok (.bipush 6, 2) := by decide +kernel
theorem dX11_whyReserve_99 : decode cX11_whyReserve 99 = .ok (.goto 5, 3) := by decide +kernel
theorem dX11_whyReserve_102 : decode cX11_whyReserve 102 = .ok (.bipush 7, 2) := by decide +kernel
theorem dX11_whyReserve_104 : decode cX11_whyReserve 104 = .ok (.ireturn, 1) := by decide +kernel
theorem dX11_loadOn_0 : decode cX11_loadOn 0 = .ok (.aload_n 0, 1) := by decide +kernel
theorem dX11_loadOn_1 : decode cX11_loadOn 1 = .ok (.iconst 0, 1) := by decide +kernel
theorem dX11_loadOn_2 : decode cX11_loadOn 2 = .ok (.putfield 50, 3) := by decide +kernel
theorem dX11_loadOn_5 : decode cX11_loadOn 5 = .ok (.aload_n 0, 1) := by decide +kernel
theorem dX11_loadOn_6 : decode cX11_loadOn 6 = .ok (.iload_n 1, 1) := by decide +kernel
theorem dX11_loadOn_7 : decode cX11_loadOn 7 = .ok (.invokevirtual 185, 3) := by decide +kernel
theorem dX11_loadOn_10 : decode cX11_loadOn 10 = .ok (.ifCond .eq 5, 3) := by decide +kernel
theorem dX11_loadOn_13 : decode cX11_loadOn 13 = .ok (.iconst 0, 1) := by decide +kernel
theorem dX11_loadOn_14 : decode cX11_loadOn 14 = .ok (.ireturn, 1) := by decide +kernel
theorem dX11_loadOn_15 : decode cX11_loadOn 15 = .ok (.aload_n 0, 1) := by decide +kernel
theorem dX11_loadOn_16 : decode cX11_loadOn 16 = .ok (.iload_n 1, 1) := by decide +kernel
theorem dX11_loadOn_17 : decode cX11_loadOn 17 = .ok (.invokevirtual 188, 3) := by decide +kernel
theorem dX11_loadOn_20 : decode cX11_loadOn 20 = .ok (.istore_n 2, 1) := by decide +kernel
theorem dX11_loadOn_21 : decode cX11_loadOn 21 = .ok (.aload_n 0, 1) := by decide +kernel
theorem dX11_loadOn_22 : decode cX11_loadOn 22 = .ok (.getfield 7, 3) := by decide +kernel
theorem dX11_loadOn_25 : decode cX11_loadOn 25 = .ok (.bipush 65, 2) := by decide +kernel
theorem dX11_loadOn_27 : decode cX11_loadOn 27 = .ok (.iload_n 2, 1) := by decide +kernel
theorem dX11_loadOn_28 : decode cX11_loadOn 28 = .ok (.iadd, 1) := by decide +kernel
theorem dX11_loadOn_29 : decode cX11_loadOn 29 = .ok (.iaload, 1) := by decide +kernel
theorem dX11_loadOn_30 : decode cX11_loadOn 30 = .ok (.iconst 1, 1) := by decide +kernel
theorem dX11_loadOn_31 : decode cX11_loadOn 31 = .ok (.if_icmp .ne 24, 3) := by decide +kernel
theorem dX11_loadOn_34 : decode cX11_loadOn 34 = .ok (.aload_n 0, 1) := by decide +kernel
theorem dX11_loadOn_35 : decode cX11_loadOn 35 = .ok (.iload_n 2, 1) := by decide +kernel
theorem dX11_loadOn_36 : decode cX11_loadOn 36 = .ok (.aload_n 0, 1) := by decide +kernel
theorem dX11_loadOn_37 : decode cX11_loadOn 37 = .ok (.getfield 7, 3) := by decide +kernel
theorem dX11_loadOn_40 : decode cX11_loadOn 40 = .ok (.bipush 74, 2) := by decide +kernel
theorem dX11_loadOn_42 : decode cX11_loadOn 42 = .ok (.iload_n 2, 1) := by decide +kernel
theorem dX11_loadOn_43 : decode cX11_loadOn 43 = .ok (.iadd, 1) := by decide +kernel
theorem dX11_loadOn_44 : decode cX11_loadOn 44 = .ok (.iaload, 1) := by decide +kernel
theorem dX11_loadOn_45 : decode cX11_loadOn 45 = .ok (.invokestatic 100, 3) := by decide +kernel
theorem dX11_loadOn_48 : decode cX11_loadOn 48 = .ok (.invokevirtual 103, 3) := by decide +kernel
theorem dX11_loadOn_51 : decode cX11_loadOn 51 = .ok (.l2i, 1) := by decide +kernel
theorem dX11_loadOn_52 : decode cX11_loadOn 52 = .ok (.goto 4, 3) := by decide +kernel
theorem dX11_loadOn_55 : decode cX11_loadOn 55 = .ok (.iconst 0, 1) := by decide +kernel
theorem dX11_loadOn_56 : decode cX11_loadOn 56 = .ok (.ireturn, 1) := by decide +kernel
theorem dX11_wouldTear_0 : decode cX11_wouldTear 0 = .ok (.aload_n 0, 1) := by decide +kernel
theorem dX11_wouldTear_1 : decode cX11_wouldTear 1 = .ok (.iconst 0, 1) := by decide +kernel
theorem dX11_wouldTear_2 : decode cX11_wouldTear 2 = .ok (.putfield 50, 3) := by decide +kernel
theorem dX11_wouldTear_5 : decode cX11_wouldTear 5 = .ok (.aload_n 0, 1) := by decide +kernel
theorem dX11_wouldTear_6 : decode cX11_wouldTear 6 = .ok (.iload_n 1, 1) := by decide +kernel
theorem dX11_wouldTear_7 : decode cX11_wouldTear 7 = .ok (.invokevirtual 185, 3) := by decide +kernel
theorem dX11_wouldTear_10 : decode cX11_wouldTear 10 = .ok (.ifCond .eq 5, 3) := by decide +kernel
theorem dX11_wouldTear_13 : decode cX11_wouldTear 13 = .ok (.iconst 0, 1) := by decide +kernel
theorem dX11_wouldTear_14 : decode cX11_wouldTear 14 = .ok (.ireturn, 1) := by decide +kernel
theorem dX11_wouldTear_15 : decode cX11_wouldTear 15 = .ok (.aload_n 0, 1) := by decide +kernel
theorem dX11_wouldTear_16 : decode cX11_wouldTear 16 = .ok (.iload_n 1, 1) := by decide +kernel
theorem dX11_wouldTear_17 : decode cX11_wouldTear 17 = .ok (.invokevirtual 188, 3) := by decide +kernel
theorem dX11_wouldTear_20 : decode cX11_wouldTear 20 = .ok (.istore_n 2, 1) := by decide +kernel
theorem dX11_wouldTear_21 : decode cX11_wouldTear 21 = .ok (.aload_n 0, 1) := by decide +kernel
theorem dX11_wouldTear_22 : decode cX11_wouldTear 22 = .ok (.getfield 7, 3) := by decide +kernel
theorem dX11_wouldTear_25 : decode cX11_wouldTear 25 = .ok (.bipush 65, 2) := by decide +kernel
theorem dX11_wouldTear_27 : decode cX11_wouldTear 27 = .ok (.iload_n 2, 1) := by decide +kernel
theorem dX11_wouldTear_28 : decode cX11_wouldTear 28 = .ok (.iadd, 1) := by decide +kernel
theorem dX11_wouldTear_29 : decode cX11_wouldTear 29 = .ok (.iaload, 1) := by decide +kernel
theorem dX11_wouldTear_30 : decode cX11_wouldTear 30 = .ok (.iconst 1, 1) := by decide +kernel
theorem dX11_wouldTear_31 : decode cX11_wouldTear 31 = .ok (.if_icmp .ne 27, 3) := by decide +kernel
theorem dX11_wouldTear_34 : decode cX11_wouldTear 34 = .ok (.aload_n 0, 1) := by decide +kernel
theorem dX11_wouldTear_35 : decode cX11_wouldTear 35 = .ok (.getfield 7, 3) := by decide +kernel
theorem dX11_wouldTear_38 : decode cX11_wouldTear 38 = .ok (.bipush 74, 2) := by decide +kernel
theorem dX11_wouldTear_40 : decode cX11_wouldTear 40 = .ok (.iload_n 2, 1) := by decide +kernel
theorem dX11_wouldTear_41 : decode cX11_wouldTear 41 = .ok (.iadd, 1) := by decide +kernel
theorem dX11_wouldTear_42 : decode cX11_wouldTear 42 = .ok (.iaload, 1) := by decide +kernel
theorem dX11_wouldTear_43 : decode cX11_wouldTear 43 = .ok (.invokestatic 100, 3) := by decide +kernel
theorem dX11_wouldTear_46 : decode cX11_wouldTear 46 = .ok (.aload_n 0, 1) := by decide +kernel
theorem dX11_wouldTear_47 : decode cX11_wouldTear 47 = .ok (.iload_n 2, 1) := by decide +kernel
theorem dX11_wouldTear_48 : decode cX11_wouldTear 48 = .ok (.invokevirtual 116, 3) := by decide +kernel
theorem dX11_wouldTear_51 : decode cX11_wouldTear 51 = .ok (.invokestatic 100, 3) := by decide +kernel
theorem dX11_wouldTear_54 : decode cX11_wouldTear 54 = .ok (.isub, 1) := by decide +kernel
theorem dX11_wouldTear_55 : decode cX11_wouldTear 55 = .ok (.goto 4, 3) := by decide +kernel
theorem dX11_wouldTear_58 : decode cX11_wouldTear 58 = .ok (.iconst 0, 1) := by decide +kernel
theorem dX11_wouldTear_59 : decode cX11_wouldTear 59 = .ok (.ireturn, 1) := by decide +kernel
theorem dX11_share_0 : decode cX11_share 0 = .ok (.aload_n 0, 1) := by decide +kernel
theorem dX11_share_1 : decode cX11_share 1 = .ok (.iconst 0, 1) := by decide +kernel
theorem dX11_share_2 : decode cX11_share 2 = .ok (.putfield 50, 3) := by decide +kernel
theorem dX11_share_5 : decode cX11_share 5 = .ok (.aload_n 0, 1) := by decide +kernel
theorem dX11_share_6 : decode cX11_share 6 = .ok (.invokevirtual 53, 3) := by decide +kernel
theorem dX11_share_9 : decode cX11_share 9 = .ok (.ifCond .ne 7, 3) := by decide +kernel
theorem dX11_share_12 : decode cX11_share 12 = .ok (.fconst 0, 1) := by decide +kernel
theorem dX11_share_13 : decode cX11_share 13 = .ok (.goto 14, 3) := by decide +kernel
theorem dX11_share_16 : decode cX11_share 16 = .ok (.aload_n 0, 1) := by decide +kernel
theorem dX11_share_17 : decode cX11_share 17 = .ok (.invokevirtual 182, 3) := by decide +kernel
theorem dX11_share_20 : decode cX11_share 20 = .ok (.i2f, 1) := by decide +kernel
theorem dX11_share_21 : decode cX11_share 21 = .ok (.aload_n 0, 1) := by decide +kernel
theorem dX11_share_22 : decode cX11_share 22 = .ok (.invokevirtual 179, 3) := by decide +kernel
theorem dX11_share_25 : decode cX11_share 25 = .ok (.i2f, 1) := by decide +kernel
theorem dX11_share_26 : decode cX11_share 26 = .ok (.fdiv, 1) := by decide +kernel
theorem dX11_share_27 : decode cX11_share 27 = .ok (.freturn, 1) := by decide +kernel
theorem dX11_meanSpeed_0 : decode cX11_meanSpeed 0 = .ok (.aload_n 0, 1) := by decide +kernel
theorem dX11_meanSpeed_1 : decode cX11_meanSpeed 1 = .ok (.iconst 0, 1) := by decide +kernel
theorem dX11_meanSpeed_2 : decode cX11_meanSpeed 2 = .ok (.putfield 50, 3) := by decide +kernel
theorem dX11_meanSpeed_5 : decode cX11_meanSpeed 5 = .ok (.aload_n 0, 1) := by decide +kernel
theorem dX11_meanSpeed_6 : decode cX11_meanSpeed 6 = .ok (.getfield 7, 3) := by decide +kernel
theorem dX11_meanSpeed_9 : decode cX11_meanSpeed 9 = .ok (.bipush 6, 2) := by decide +kernel
theorem dX11_meanSpeed_11 : decode cX11_meanSpeed 11 = .ok (.iaload, 1) := by decide +kernel
theorem dX11_meanSpeed_12 : decode cX11_meanSpeed 12 = .ok (.ifCond .ne 7, 3) := by decide +kernel
theorem dX11_meanSpeed_15 : decode cX11_meanSpeed 15 = .ok (.dconst 0, 1) := by decide +kernel
theorem dX11_meanSpeed_16 : decode cX11_meanSpeed 16 = .ok (.goto 20, 3) := by decide +kernel
theorem dX11_meanSpeed_19 : decode cX11_meanSpeed 19 = .ok (.aload_n 0, 1) := by decide +kernel
theorem dX11_meanSpeed_20 : decode cX11_meanSpeed 20 = .ok (.getfield 7, 3) := by decide +kernel
theorem dX11_meanSpeed_23 : decode cX11_meanSpeed 23 = .ok (.bipush 13, 2) := by decide +kernel
theorem dX11_meanSpeed_25 : decode cX11_meanSpeed 25 = .ok (.iaload, 1) := by decide +kernel
theorem dX11_meanSpeed_26 : decode cX11_meanSpeed 26 = .ok (.i2d, 1) := by decide +kernel
theorem dX11_meanSpeed_27 : decode cX11_meanSpeed 27 = .ok (.aload_n 0, 1) := by decide +kernel
theorem dX11_meanSpeed_28 : decode cX11_meanSpeed 28 = .ok (.getfield 7, 3) := by decide +kernel
theorem dX11_meanSpeed_31 : decode cX11_meanSpeed 31 = .ok (.bipush 6, 2) := by decide +kernel
theorem dX11_meanSpeed_33 : decode cX11_meanSpeed 33 = .ok (.iaload, 1) := by decide +kernel
theorem dX11_meanSpeed_34 : decode cX11_meanSpeed 34 = .ok (.i2d, 1) := by decide +kernel
theorem dX11_meanSpeed_35 : decode cX11_meanSpeed 35 = .ok (.ddiv, 1) := by decide +kernel
theorem dX11_meanSpeed_36 : decode cX11_meanSpeed 36 = .ok (.dreturn, 1) := by decide +kernel
theorem dX11_back_0 : decode cX11_back 0 = .ok (.aload_n 0, 1) := by decide +kernel
theorem dX11_back_1 : decode cX11_back 1 = .ok (.getfield 16, 3) := by decide +kernel
theorem dX11_back_4 : decode cX11_back 4 = .ok (.iconst 0, 1) := by decide +kernel
theorem dX11_back_5 : decode cX11_back 5 = .ok (.aload_n 0, 1) := by decide +kernel
theorem dX11_back_6 : decode cX11_back 6 = .ok (.getfield 7, 3) := by decide +kernel
theorem dX11_back_9 : decode cX11_back 9 = .ok (.iconst 0, 1) := by decide +kernel
theorem dX11_back_10 : decode cX11_back 10 = .ok (.invokestatic 200, 3) := by decide +kernel
theorem dX11_back_13 : decode cX11_back 13 = .ok (.iload_n 1, 1) := by decide +kernel
theorem dX11_back_14 : decode cX11_back 14 = .ok (.ireturn, 1) := by decide +kernel
theorem dX11_looks_0 : decode cX11_looks 0 = .ok (.aload_n 0, 1) := by decide +kernel
theorem dX11_looks_1 : decode cX11_looks 1 = .ok (.iconst 0, 1) := by decide +kernel
theorem dX11_looks_2 : decode cX11_looks 2 = .ok (.putfield 50, 3) := by decide +kernel
theorem dX11_looks_5 : decode cX11_looks 5 = .ok (.aload_n 0, 1) := by decide +kernel
theorem dX11_looks_6 : decode cX11_looks 6 = .ok (.getfield 7, 3) := by decide +kernel
theorem dX11_looks_9 : decode cX11_looks 9 = .ok (.iconst 0, 1) := by decide +kernel
theorem dX11_looks_10 : decode cX11_looks 10 = .ok (.aload_n 0, 1) := by decide +kernel
theorem dX11_looks_11 : decode cX11_looks 11 = .ok (.getfield 16, 3) := by decide +kernel
theorem dX11_looks_14 : decode cX11_looks 14 = .ok (.iconst 0, 1) := by decide +kernel
theorem dX11_looks_15 : decode cX11_looks 15 = .ok (.invokestatic 200, 3) := by decide +kernel
theorem dX11_looks_18 : decode cX11_looks 18 = .ok (.return_, 1) := by decide +kernel
theorem dX11_lands_0 : decode cX11_lands 0 = .ok (.aload_n 0, 1) := by decide +kernel
theorem dX11_lands_1 : decode cX11_lands 1 = .ok (.sipush 3000, 3) := by decide +kernel
theorem dX11_lands_4 : decode cX11_lands 4 = .ok (.iconst 0, 1) := by decide +kernel
theorem dX11_lands_5 : decode cX11_lands 5 = .ok (.invokevirtual 204, 3) := by decide +kernel
theorem dX11_lands_8 : decode cX11_lands 8 = .ok (.istore_n 1, 1) := by decide +kernel
theorem dX11_lands_9 : decode cX11_lands 9 = .ok (.aload_n 0, 1) := by decide +kernel
theorem dX11_lands_10 : decode cX11_lands 10 = .ok (.getfield 7, 3) := by decide +kernel
theorem dX11_lands_13 : decode cX11_lands 13 = .ok (.iconst 0, 1) := by decide +kernel
theorem dX11_lands_14 : decode cX11_lands 14 = .ok (.iaload, 1) := by decide +kernel
theorem dX11_lands_15 : decode cX11_lands 15 = .ok (.ifCond .ne 7, 3) := by decide +kernel
theorem dX11_lands_18 : decode cX11_lands 18 = .ok (.iconst 1, 1) := by decide +kernel
theorem dX11_lands_19 : decode cX11_lands 19 = .ok (.goto 4, 3) := by decide +kernel
theorem dX11_lands_22 : decode cX11_lands 22 = .ok (.iconst 0, 1) := by decide +kernel
theorem dX11_lands_23 : decode cX11_lands 23 = .ok (.ireturn, 1) := by decide +kernel
theorem dX11_landIn_0 : decode cX11_landIn 0 = .ok (.aload_n 0, 1) := by decide +kernel
theorem dX11_landIn_1 : decode cX11_landIn 1 = .ok (.invokevirtual 207, 3) := by decide +kernel
theorem dX11_landIn_4 : decode cX11_landIn 4 = .ok (.aload_n 0, 1) := by decide +kernel
theorem dX11_landIn_5 : decode cX11_landIn 5 = .ok (.sipush 3000, 3) := by decide +kernel
theorem dX11_landIn_8 : decode cX11_landIn 8 = .ok (.iconst 0, 1) := by decide +kernel
theorem dX11_landIn_9 : decode cX11_landIn 9 = .ok (.invokevirtual 204, 3) := by decide +kernel
theorem dX11_landIn_12 : decode cX11_landIn 12 = .ok (.istore_n 1, 1) := by decide +kernel
theorem dX11_landIn_13 : decode cX11_landIn 13 = .ok (.aload_n 0, 1) := by decide +kernel
theorem dX11_landIn_14 : decode cX11_landIn 14 = .ok (.aload_n 0, 1) := by decide +kernel
theorem dX11_landIn_15 : decode cX11_landIn 15 = .ok (.getfield 7, 3) := by decide +kernel
theorem dX11_landIn_18 : decode cX11_landIn 18 = .ok (.iconst 0, 1) := by decide +kernel
theorem dX11_landIn_19 : decode cX11_landIn 19 = .ok (.iaload, 1) := by decide +kernel
theorem dX11_landIn_20 : decode cX11_landIn 20 = .ok (.ifCond .ne 7, 3) := by decide +kernel
theorem dX11_landIn_23 : decode cX11_landIn 23 = .ok (.iload_n 1, 1) := by decide +kernel
theorem dX11_landIn_24 : decode cX11_landIn 24 = .ok (.goto 4, 3) := by decide +kernel
theorem dX11_landIn_27 : decode cX11_landIn 27 = .ok (.iconst (-1), 1) := by decide +kernel
theorem dX11_landIn_28 : decode cX11_landIn 28 = .ok (.invokevirtual 210, 3) := by decide +kernel
theorem dX11_landIn_31 : decode cX11_landIn 31 = .ok (.ireturn, 1) := by decide +kernel
theorem dX11_landAt_0 : decode cX11_landAt 0 = .ok (.aload_n 0, 1) := by decide +kernel
theorem dX11_landAt_1 : decode cX11_landAt 1 = .ok (.invokevirtual 207, 3) := by decide +kernel
theorem dX11_landAt_4 : decode cX11_landAt 4 = .ok (.aload_n 0, 1) := by decide +kernel
theorem dX11_landAt_5 : decode cX11_landAt 5 = .ok (.invokevirtual 213, 3) := by decide +kernel
theorem dX11_landAt_8 : decode cX11_landAt 8 = .ok (.istore_n 1, 1) := by decide +kernel
theorem dX11_landAt_9 : decode cX11_landAt 9 = .ok (.aload_n 0, 1) := by decide +kernel
theorem dX11_landAt_10 : decode cX11_landAt 10 = .ok (.getfield 7, 3) := by decide +kernel
theorem dX11_landAt_13 : decode cX11_landAt 13 = .ok (.iconst 2, 1) := by decide +kernel
theorem dX11_landAt_14 : decode cX11_landAt 14 = .ok (.iaload, 1) := by decide +kernel
theorem dX11_landAt_15 : decode cX11_landAt 15 = .ok (.istore_n 2, 1) := by decide +kernel
theorem dX11_landAt_16 : decode cX11_landAt 16 = .ok (.aload_n 0, 1) := by decide +kernel
theorem dX11_landAt_17 : decode cX11_landAt 17 = .ok (.iload_n 1, 1) := by decide +kernel
theorem dX11_landAt_18 : decode cX11_landAt 18 = .ok (.ifCond .ne 7, 3) := by decide +kernel
theorem dX11_landAt_21 : decode cX11_landAt 21 = .ok (.iconst 1, 1) := by decide +kernel
theorem dX11_landAt_22 : decode cX11_landAt 22 = .ok (.goto 4, 3) := by decide +kernel
theorem dX11_landAt_25 : decode cX11_landAt 25 = .ok (.iconst 0, 1) := by decide +kernel
theorem dX11_landAt_26 : decode cX11_landAt 26 = .ok (.iconst 1, 1) := by decide +kernel
theorem dX11_landAt_27 : decode cX11_landAt 27 = .ok (.invokevirtual 61, 3) := by decide +kernel
theorem dX11_landAt_30 : decode cX11_landAt 30 = .ok (.pop, 1) := by decide +kernel
theorem dX11_landAt_31 : decode cX11_landAt 31 = .ok (.aload_n 0, 1) := by decide +kernel
theorem dX11_landAt_32 : decode cX11_landAt 32 = .ok (.iload_n 1, 1) := by decide +kernel
theorem dX11_landAt_33 : decode cX11_landAt 33 = .ok (.ifCond .eq 7, 3) := by decide +kernel
theorem dX11_landAt_36 : decode cX11_landAt 36 = .ok (.iload_n 2, 1) := by decide +kernel
theorem dX11_landAt_37 : decode cX11_landAt 37 = .ok (.goto 4, 3) := by decide +kernel
theorem dX11_landAt_40 : decode cX11_landAt 40 = .ok (.iconst 0, 1) := by decide +kernel
theorem dX11_landAt_41 : decode cX11_landAt 41 = .ok (.invokevirtual 210, 3) := by decide +kernel
theorem dX11_landAt_44 : decode cX11_landAt 44 = .ok (.ireturn, 1) := by decide +kernel
theorem dX11_landSpeed_0 : decode cX11_landSpeed 0 = .ok (.aload_n 0, 1) := by decide +kernel
theorem dX11_landSpeed_1 : decode cX11_landSpeed 1 = .ok (.invokevirtual 207, 3) := by decide +kernel
theorem dX11_landSpeed_4 : decode cX11_landSpeed 4 = .ok (.aload_n 0, 1) := by decide +kernel
theorem dX11_landSpeed_5 : decode cX11_landSpeed 5 = .ok (.aload_n 0, 1) := by decide +kernel
theorem dX11_landSpeed_6 : decode cX11_landSpeed 6 = .ok (.invokevirtual 213, 3) := by decide +kernel
theorem dX11_landSpeed_9 : decode cX11_landSpeed 9 = .ok (.ifCond .eq 12, 3) := by decide +kernel
theorem dX11_landSpeed_12 : decode cX11_landSpeed 12 = .ok (.aload_n 0, 1) := by decide +kernel
theorem dX11_landSpeed_13 : decode cX11_landSpeed 13 = .ok (.getfield 7, 3) := by decide +kernel
theorem dX11_landSpeed_16 : decode cX11_landSpeed 16 = .ok (.iconst 1, 1) := by decide +kernel
theorem dX11_landSpeed_17 : decode cX11_landSpeed 17 = .ok (.iaload, 1) := by decide +kernel
theorem dX11_landSpeed_18 : decode cX11_landSpeed 18 = .ok (.goto 4, 3) := by decide +kernel
theorem dX11_landSpeed_21 : decode cX11_landSpeed 21 = .ok (.iconst (-1), 1) := by decide +kernel
theorem dX11_landSpeed_22 : decode cX11_landSpeed 22 = .ok (.invokevirtual 210, 3) := by decide +kernel
theorem dX11_landSpeed_25 : decode cX11_landSpeed 25 = .ok (.ireturn, 1) := by decide +kernel
theorem dX11_landResult_0 : decode cX11_landResult 0 = .ok (.aload_n 0, 1) := by decide +kernel
theorem dX11_landResult_1 : decode cX11_landResult 1 = .ok (.invokevirtual 207, 3) := by decide +kernel
theorem dX11_landResult_4 : decode cX11_landResult 4 = .ok (.aload_n 0, 1) := by decide +kernel
theorem dX11_landResult_5 : decode cX11_landResult 5 = .ok (.aload_n 0, 1) := by decide +kernel
theorem dX11_landResult_6 : decode cX11_landResult 6 = .ok (.invokevirtual 213, 3) := by decide +kernel
theorem dX11_landResult_9 : decode cX11_landResult 9 = .ok (.ifCond .eq 10, 3) := by decide +kernel
theorem dX11_landResult_12 : decode cX11_landResult 12 = .ok (.aload_n 0, 1) := by decide +kernel
theorem dX11_landResult_13 : decode cX11_landResult 13 = .ok (.invokevirtual 164, 3) := by decide +kernel
theorem dX11_landResult_16 : decode cX11_landResult 16 = .ok (.goto 4, 3) := by decide +kernel
theorem dX11_landResult_19 : decode cX11_landResult 19 = .ok (.iconst (-1), 1) := by decide +kernel
theorem dX11_landResult_20 : decode cX11_landResult 20 = .ok (.invokevirtual 210, 3) := by decide +kernel
theorem dX11_landResult_23 : decode cX11_landResult 23 = .ok (.ireturn, 1) := by decide +kernel
theorem dX11_failsIn_0 : decode cX11_failsIn 0 = .ok (.aload_n 0, 1) := by decide +kernel
theorem dX11_failsIn_1 : decode cX11_failsIn 1 = .ok (.invokevirtual 207, 3) := by decide +kernel
theorem dX11_failsIn_4 : decode cX11_failsIn 4 = .ok (.aload_n 0, 1) := by decide +kernel
theorem dX11_failsIn_5 : decode cX11_failsIn 5 = .ok (.iload_n 1, 1) := by decide +kernel
theorem dX11_failsIn_6 : decode cX11_failsIn 6 = .ok (.invokevirtual 185, 3) := by decide +kernel
theorem dX11_failsIn_9 : decode cX11_failsIn 9 = .ok (.ifCond .eq 5, 3) := by decide +kernel
theorem dX11_failsIn_12 : decode cX11_failsIn 12 = .ok (.iconst 0, 1) := by decide +kernel
theorem dX11_failsIn_13 : decode cX11_failsIn 13 = .ok (.ireturn, 1) := by decide +kernel
theorem dX11_failsIn_14 : decode cX11_failsIn 14 = .ok (.aload_n 0, 1) := by decide +kernel
theorem dX11_failsIn_15 : decode cX11_failsIn 15 = .ok (.iload_n 1, 1) := by decide +kernel
theorem dX11_failsIn_16 : decode cX11_failsIn 16 = .ok (.invokevirtual 188, 3) := by decide +kernel
theorem dX11_failsIn_19 : decode cX11_failsIn 19 = .ok (.istore_n 2, 1) := by decide +kernel
theorem dX11_failsIn_20 : decode cX11_failsIn 20 = .ok (.iconst 0, 1) := by decide +kernel
theorem dX11_failsIn_21 : decode cX11_failsIn 21 = .ok (.istore_n 3, 1) := by decide +kernel
theorem dX11_failsIn_22 : decode cX11_failsIn 22 = .ok (.iload_n 3, 1) := by decide +kernel
theorem dX11_failsIn_23 : decode cX11_failsIn 23 = .ok (.sipush 3000, 3) := by decide +kernel
theorem dX11_failsIn_26 : decode cX11_failsIn 26 = .ok (.if_icmp .ge 48, 3) := by decide +kernel
theorem dX11_failsIn_29 : decode cX11_failsIn 29 = .ok (.aload_n 0, 1) := by decide +kernel
theorem dX11_failsIn_30 : decode cX11_failsIn 30 = .ok (.getfield 7, 3) := by decide +kernel
theorem dX11_failsIn_33 : decode cX11_failsIn 33 = .ok (.iconst 0, 1) := by decide +kernel
theorem dX11_failsIn_34 : decode cX11_failsIn 34 = .ok (.iaload, 1) := by decide +kernel
theorem dX11_failsIn_35 : decode cX11_failsIn 35 = .ok (.ifCond .le 39, 3) := by decide +kernel
theorem dX11_failsIn_38 : decode cX11_failsIn 38 = .ok (.aload_n 0, 1) := by decide +kernel
theorem dX11_failsIn_39 : decode cX11_failsIn 39 = .ok (.getfield 7, 3) := by decide +kernel
theorem dX11_failsIn_42 : decode cX11_failsIn 42 = .ok (.bipush 65, 2) := by decide +kernel
theorem dX11_failsIn_44 : decode cX11_failsIn 44 = .ok (.iload_n 2, 1) := by decide +kernel
theorem dX11_failsIn_45 : decode cX11_failsIn 45 = .ok (.iadd, 1) := by decide +kernel
theorem dX11_failsIn_46 : decode cX11_failsIn 46 = .ok (.iaload, 1) := by decide +kernel
theorem dX11_failsIn_47 : decode cX11_failsIn 47 = .ok (.iconst 2, 1) := by decide +kernel
theorem dX11_failsIn_48 : decode cX11_failsIn 48 = .ok (.if_icmp .eq 26, 3) := by decide +kernel
theorem dX11_failsIn_51 : decode cX11_failsIn 51 = .ok (.aload_n 0, 1) := by decide +kernel
theorem dX11_failsIn_52 : decode cX11_failsIn 52 = .ok (.getfield 7, 3) := by decide +kernel
theorem dX11_failsIn_55 : decode cX11_failsIn 55 = .ok (.bipush 65, 2) := by decide +kernel
theorem dX11_failsIn_57 : decode cX11_failsIn 57 = .ok (.iload_n 2, 1) := by decide +kernel
theorem dX11_failsIn_58 : decode cX11_failsIn 58 = .ok (.iadd, 1) := by decide +kernel
theorem dX11_failsIn_59 : decode cX11_failsIn 59 = .ok (.iaload, 1) := by decide +kernel
theorem dX11_failsIn_60 : decode cX11_failsIn 60 = .ok (.iconst 3, 1) := by decide +kernel
theorem dX11_failsIn_61 : decode cX11_failsIn 61 = .ok (.if_icmp .eq 13, 3) := by decide +kernel
theorem dX11_failsIn_64 : decode cX11_failsIn 64 = .ok (.aload_n 0, 1) := by decide +kernel
theorem dX11_failsIn_65 : decode cX11_failsIn 65 = .ok (.invokevirtual 167, 3) := by decide +kernel
theorem dX11_failsIn_68 : decode cX11_failsIn 68 = .ok (.iinc 3 1, 3) := by decide +kernel
theorem dX11_failsIn_71 : decode cX11_failsIn 71 = .ok (.goto (-49), 3) := by decide +kernel
theorem dX11_failsIn_74 : decode cX11_failsIn 74 = .ok (.aload_n 0, 1) := by decide +kernel
theorem dX11_failsIn_75 : decode cX11_failsIn 75 = .ok (.aload_n 0, 1) := by decide +kernel
theorem dX11_failsIn_76 : decode cX11_failsIn 76 = .ok (.getfield 7, 3) := by decide +kernel
theorem dX11_failsIn_79 : decode cX11_failsIn 79 = .ok (.bipush 65, 2) := by decide +kernel
theorem dX11_failsIn_81 : decode cX11_failsIn 81 = .ok (.iload_n 2, 1) := by decide +kernel
theorem dX11_failsIn_82 : decode cX11_failsIn 82 = .ok (.iadd, 1) := by decide +kernel
theorem dX11_failsIn_83 : decode cX11_failsIn 83 = .ok (.iaload, 1) := by decide +kernel
theorem dX11_failsIn_84 : decode cX11_failsIn 84 = .ok (.iconst 2, 1) := by decide +kernel
theorem dX11_failsIn_85 : decode cX11_failsIn 85 = .ok (.if_icmp .eq 16, 3) := by decide +kernel
theorem dX11_failsIn_88 : decode cX11_failsIn 88 = .ok (.aload_n 0, 1) := by decide +kernel
theorem dX11_failsIn_89 : decode cX11_failsIn 89 = .ok (.getfield 7, 3) := by decide +kernel
theorem dX11_failsIn_92 : decode cX11_failsIn 92 = .ok (.bipush 65, 2) := by decide +kernel
theorem dX11_failsIn_94 : decode cX11_failsIn 94 = .ok (.iload_n 2, 1) := by decide +kernel
theorem dX11_failsIn_95 : decode cX11_failsIn 95 = .ok (.iadd, 1) := by decide +kernel
theorem dX11_failsIn_96 : decode cX11_failsIn 96 = .ok (.iaload, 1) := by decide +kernel
theorem dX11_failsIn_97 : decode cX11_failsIn 97 = .ok (.iconst 3, 1) := by decide +kernel
theorem dX11_failsIn_98 : decode cX11_failsIn 98 = .ok (.if_icmp .ne 7, 3) := by decide +kernel
theorem dX11_failsIn_101 : decode cX11_failsIn 101 = .ok (.iload_n 3, 1) := by decide +kernel
theorem dX11_failsIn_102 : decode cX11_failsIn 102 = .ok (.goto 4, 3) := by decide +kernel
theorem dX11_failsIn_105 : decode cX11_failsIn 105 = .ok (.iconst (-1), 1) := by decide +kernel
theorem dX11_failsIn_106 : decode cX11_failsIn 106 = .ok (.invokevirtual 210, 3) := by decide +kernel
theorem dX11_failsIn_109 : decode cX11_failsIn 109 = .ok (.ireturn, 1) := by decide +kernel
theorem dX11_reserveIn_0 : decode cX11_reserveIn 0 = .ok (.aload_n 0, 1) := by decide +kernel
theorem dX11_reserveIn_1 : decode cX11_reserveIn 1 = .ok (.invokevirtual 207, 3) := by decide +kernel
theorem dX11_reserveIn_4 : decode cX11_reserveIn 4 = .ok (.iconst 0, 1) := by decide +kernel
theorem dX11_reserveIn_5 : decode cX11_reserveIn 5 = .ok (.istore_n 1, 1) := by decide +kernel
theorem dX11_reserveIn_6 : decode cX11_reserveIn 6 = .ok (.iload_n 1, 1) := by decide +kernel
theorem dX11_reserveIn_7 : decode cX11_reserveIn 7 = .ok (.sipush 3000, 3) := by decide +kernel
theorem dX11_reserveIn_10 : decode cX11_reserveIn 10 = .ok (.if_icmp .ge 44, 3) := by decide +kernel
theorem dX11_reserveIn_13 : decode cX11_reserveIn 13 = .ok (.aload_n 0, 1) := by decide +kernel
theorem dX11_reserveIn_14 : decode cX11_reserveIn 14 = .ok (.getfield 7, 3) := by decide +kernel
theorem dX11_reserveIn_17 : decode cX11_reserveIn 17 = .ok (.iconst 0, 1) := by decide +kernel
theorem dX11_reserveIn_18 : decode cX11_reserveIn 18 = .ok (.iaload, 1) := by decide +kernel
theorem dX11_reserveIn_19 : decode cX11_reserveIn 19 = .ok (.ifCond .le 35, 3) := by decide +kernel
theorem dX11_reserveIn_22 : decode cX11_reserveIn 22 = .ok (.aload_n 0, 1) := by decide +kernel
theorem dX11_reserveIn_23 : decode cX11_reserveIn 23 = .ok (.getfield 7, 3) := by decide +kernel
theorem dX11_reserveIn_26 : decode cX11_reserveIn 26 = .ok (.bipush 9, 2) := by decide +kernel
theorem dX11_reserveIn_28 : decode cX11_reserveIn 28 = .ok (.iaload, 1) := by decide +kernel
theorem dX11_reserveIn_29 : decode cX11_reserveIn 29 = .ok (.iconst 1, 1) := by decide +kernel
theorem dX11_reserveIn_30 : decode cX11_reserveIn 30 = .ok (.if_icmp .ne 24, 3) := by decide +kernel
theorem dX11_reserveIn_33 : decode cX11_reserveIn 33 = .ok (.aload_n 0, 1) := by decide +kernel
theorem dX11_reserveIn_34 : decode cX11_reserveIn 34 = .ok (.getfield 7, 3) := by decide +kernel
theorem dX11_reserveIn_37 : decode cX11_reserveIn 37 = .ok (.bipush 73, 2) := by decide +kernel
theorem dX11_reserveIn_39 : decode cX11_reserveIn 39 = .ok (.iaload, 1) := by decide +kernel
theorem dX11_reserveIn_40 : decode cX11_reserveIn 40 = .ok (.iconst 1, 1) := by decide +kernel
theorem dX11_reserveIn_41 : decode cX11_reserveIn 41 = .ok (.if_icmp .eq 13, 3) := by decide +kernel
theorem dX11_reserveIn_44 : decode cX11_reserveIn 44 = .ok (.aload_n 0, 1) := by decide +kernel
theorem dX11_reserveIn_45 : decode cX11_reserveIn 45 = .ok (.invokevirtual 167, 3) := by decide +kernel
theorem dX11_reserveIn_48 : decode cX11_reserveIn 48 = .ok (.iinc 1 1, 3) := by decide +kernel
theorem dX11_reserveIn_51 : decode cX11_reserveIn 51 = .ok (.goto (-45), 3) := by decide +kernel
theorem dX11_reserveIn_54 : decode cX11_reserveIn 54 = .ok (.aload_n 0, 1) := by decide +kernel
theorem dX11_reserveIn_55 : decode cX11_reserveIn 55 = .ok (.aload_n 0, 1) := by decide +kernel
theorem dX11_reserveIn_56 : decode cX11_reserveIn 56 = .ok (.getfield 7, 3) := by decide +kernel
theorem dX11_reserveIn_59 : decode cX11_reserveIn 59 = .ok (.bipush 9, 2) := by decide +kernel
theorem dX11_reserveIn_61 : decode cX11_reserveIn 61 = .ok (.iaload, 1) := by decide +kernel
theorem dX11_reserveIn_62 : decode cX11_reserveIn 62 = .ok (.iconst 1, 1) := by decide +kernel
theorem dX11_reserveIn_63 : decode cX11_reserveIn 63 = .ok (.if_icmp .ne 18, 3) := by decide +kernel
theorem dX11_reserveIn_66 : decode cX11_reserveIn 66 = .ok (.aload_n 0, 1) := by decide +kernel
theorem dX11_reserveIn_67 : decode cX11_reserveIn 67 = .ok (.getfield 7, 3) := by decide +kernel
theorem dX11_reserveIn_70 : decode cX11_reserveIn 70 = .ok (.bipush 73, 2) := by decide +kernel
theorem dX11_reserveIn_72 : decode cX11_reserveIn 72 = .ok (.iaload, 1) := by decide +kernel
theorem dX11_reserveIn_73 : decode cX11_reserveIn 73 = .ok (.iconst 1, 1) := by decide +kernel
theorem dX11_reserveIn_74 : decode cX11_reserveIn 74 = .ok (.if_icmp .ne 7, 3) := by decide +kernel
theorem dX11_reserveIn_77 : decode cX11_reserveIn 77 = .ok (.iload_n 1, 1) := by decide +kernel
theorem dX11_reserveIn_78 : decode cX11_reserveIn 78 = .ok (.goto 4, 3) := by decide +kernel
theorem dX11_reserveIn_81 : decode cX11_reserveIn 81 = .ok (.iconst (-1), 1) := by decide +kernel
theorem dX11_reserveIn_82 : decode cX11_reserveIn 82 = .ok (.invokevirtual 210, 3) := by decide +kernel
theorem dX11_reserveIn_85 : decode cX11_reserveIn 85 = .ok (.ireturn, 1) := by decide +kernel
theorem dX11_hottest_0 : decode cX11_hottest 0 = .ok (.aload_n 0, 1) := by decide +kernel
theorem dX11_hottest_1 : decode cX11_hottest 1 = .ok (.invokevirtual 207, 3) := by decide +kernel
theorem dX11_hottest_4 : decode cX11_hottest 4 = .ok (.aload_n 0, 1) := by decide +kernel
theorem dX11_hottest_5 : decode cX11_hottest 5 = .ok (.getfield 7, 3) := by decide +kernel
theorem dX11_hottest_8 : decode cX11_hottest 8 = .ok (.iconst 4, 1) := by decide +kernel
theorem dX11_hottest_9 : decode cX11_hottest 9 = .ok (.iaload, 1) := by decide +kernel
theorem dX11_hottest_10 : decode cX11_hottest 10 = .ok (.istore_n 1, 1) := by decide +kernel
theorem dX11_hottest_11 : decode cX11_hottest 11 = .ok (.iconst 0, 1) := by decide +kernel
theorem dX11_hottest_12 : decode cX11_hottest 12 = .ok (.istore_n 2, 1) := by decide +kernel
theorem dX11_hottest_13 : decode cX11_hottest 13 = .ok (.iload_n 2, 1) := by decide +kernel
theorem dX11_hottest_14 : decode cX11_hottest 14 = .ok (.sipush 3000, 3) := by decide +kernel
theorem dX11_hottest_17 : decode cX11_hottest 17 = .ok (.if_icmp .ge 33, 3) := by decide +kernel
theorem dX11_hottest_20 : decode cX11_hottest 20 = .ok (.aload_n 0, 1) := by decide +kernel
theorem dX11_hottest_21 : decode cX11_hottest 21 = .ok (.getfield 7, 3) := by decide +kernel
theorem dX11_hottest_24 : decode cX11_hottest 24 = .ok (.iconst 0, 1) := by decide +kernel
theorem dX11_hottest_25 : decode cX11_hottest 25 = .ok (.iaload, 1) := by decide +kernel
theorem dX11_hottest_26 : decode cX11_hottest 26 = .ok (.ifCond .le 24, 3) := by decide +kernel
theorem dX11_hottest_29 : decode cX11_hottest 29 = .ok (.aload_n 0, 1) := by decide +kernel
theorem dX11_hottest_30 : decode cX11_hottest 30 = .ok (.invokevirtual 167, 3) := by decide +kernel
theorem dX11_hottest_33 : decode cX11_hottest 33 = .ok (.iload_n 1, 1) := by decide +kernel
theorem dX11_hottest_34 : decode cX11_hottest 34 = .ok (.aload_n 0, 1) := by decide +kernel
theorem dX11_hottest_35 : decode cX11_hottest 35 = .ok (.getfield 7, 3) := by decide +kernel
theorem dX11_hottest_38 : decode cX11_hottest 38 = .ok (.iconst 4, 1) := by decide +kernel
theorem dX11_hottest_39 : decode cX11_hottest 39 = .ok (.iaload, 1) := by decide +kernel
theorem dX11_hottest_40 : decode cX11_hottest 40 = .ok (.invokestatic 155, 3) := by decide +kernel
theorem dX11_hottest_43 : decode cX11_hottest 43 = .ok (.istore_n 1, 1) := by decide +kernel
theorem dX11_hottest_44 : decode cX11_hottest 44 = .ok (.iinc 2 1, 3) := by decide +kernel
theorem dX11_hottest_47 : decode cX11_hottest 47 = .ok (.goto (-34), 3) := by decide +kernel
theorem dX11_hottest_50 : decode cX11_hottest 50 = .ok (.aload_n 0, 1) := by decide +kernel
theorem dX11_hottest_51 : decode cX11_hottest 51 = .ok (.iload_n 1, 1) := by decide +kernel
theorem dX11_hottest_52 : decode cX11_hottest 52 = .ok (.invokevirtual 210, 3) := by decide +kernel
theorem dX11_hottest_55 : decode cX11_hottest 55 = .ok (.ireturn, 1) := by decide +kernel
theorem dX11_far_0 : decode cX11_far 0 = .ok (.aload_n 0, 1) := by decide +kernel
theorem dX11_far_1 : decode cX11_far 1 = .ok (.getfield 7, 3) := by decide +kernel
theorem dX11_far_4 : decode cX11_far 4 = .ok (.bipush 124, 2) := by decide +kernel
theorem dX11_far_6 : decode cX11_far 6 = .ok (.iconst 3, 1) := by decide +kernel
theorem dX11_far_7 : decode cX11_far 7 = .ok (.iload_n 1, 1) := by decide +kernel
theorem dX11_far_8 : decode cX11_far 8 = .ok (.imul, 1) := by decide +kernel
theorem dX11_far_9 : decode cX11_far 9 = .ok (.iadd, 1) := by decide +kernel
theorem dX11_far_10 : decode cX11_far 10 = .ok (.iaload, 1) := by decide +kernel
theorem dX11_far_11 : decode cX11_far 11 = .ok (.istore_n 2, 1) := by decide +kernel
theorem dX11_far_12 : decode cX11_far 12 = .ok (.aload_n 0, 1) := by decide +kernel
theorem dX11_far_13 : decode cX11_far 13 = .ok (.getfield 7, 3) := by decide +kernel
theorem dX11_far_16 : decode cX11_far 16 = .ok (.bipush 124, 2) := by decide +kernel
theorem dX11_far_18 : decode cX11_far 18 = .ok (.iconst 3, 1) := by decide +kernel
theorem dX11_far_19 : decode cX11_far 19 = .ok (.iload_n 1, 1) := by decide +kernel
theorem dX11_far_20 : decode cX11_far 20 = .ok (.imul, 1) := by decide +kernel
theorem dX11_far_21 : decode cX11_far 21 = .ok (.iadd, 1) := by decide +kernel
theorem dX11_far_22 : decode cX11_far 22 = .ok (.iconst 1, 1) := by decide +kernel
theorem dX11_far_23 : decode cX11_far 23 = .ok (.iadd, 1) := by decide +kernel
theorem dX11_far_24 : decode cX11_far 24 = .ok (.iaload, 1) := by decide +kernel
theorem dX11_far_25 : decode cX11_far 25 = .ok (.istore_n 3, 1) := by decide +kernel
theorem dX11_far_26 : decode cX11_far 26 = .ok (.aload_n 0, 1) := by decide +kernel
theorem dX11_far_27 : decode cX11_far 27 = .ok (.getfield 7, 3) := by decide +kernel
theorem dX11_far_30 : decode cX11_far 30 = .ok (.iconst 2, 1) := by decide +kernel
theorem dX11_far_31 : decode cX11_far 31 = .ok (.iaload, 1) := by decide +kernel
theorem dX11_far_32 : decode cX11_far 32 = .ok (.iload_n 2, 1) := by decide +kernel
theorem dX11_far_33 : decode cX11_far 33 = .ok (.if_icmp .ge 14, 3) := by decide +kernel
theorem dX11_far_36 : decode cX11_far 36 = .ok (.iload_n 2, 1) := by decide +kernel
theorem dX11_far_37 : decode cX11_far 37 = .ok (.aload_n 0, 1) := by decide +kernel
theorem dX11_far_38 : decode cX11_far 38 = .ok (.getfield 7, 3) := by decide +kernel
theorem dX11_far_41 : decode cX11_far 41 = .ok (.iconst 2, 1) := by decide +kernel
theorem dX11_far_42 : decode cX11_far 42 = .ok (.iaload, 1) := by decide +kernel
theorem dX11_far_43 : decode cX11_far 43 = .ok (.isub, 1) := by decide +kernel
theorem dX11_far_44 : decode cX11_far 44 = .ok (.goto 25, 3) := by decide +kernel
theorem dX11_far_47 : decode cX11_far 47 = .ok (.aload_n 0, 1) := by decide +kernel
theorem dX11_far_48 : decode cX11_far 48 = .ok (.getfield 7, 3) := by decide +kernel
theorem dX11_far_51 : decode cX11_far 51 = .ok (.iconst 2, 1) := by decide +kernel
theorem dX11_far_52 : decode cX11_far 52 = .ok (.iaload, 1) := by decide +kernel
theorem dX11_far_53 : decode cX11_far 53 = .ok (.iload_n 3, 1) := by decide +kernel
theorem dX11_far_54 : decode cX11_far 54 = .ok (.if_icmp .le 14, 3) := by decide +kernel
theorem dX11_far_57 : decode cX11_far 57 = .ok (.aload_n 0, 1) := by decide +kernel
theorem dX11_far_58 : decode cX11_far 58 = .ok (.getfield 7, 3) := by decide +kernel
theorem dX11_far_61 : decode cX11_far 61 = .ok (.iconst 2, 1) := by decide +kernel
theorem dX11_far_62 : decode cX11_far 62 = .ok (.iaload, 1) := by decide +kernel
theorem dX11_far_63 : decode cX11_far 63 = .ok (.iload_n 3, 1) := by decide +kernel
theorem dX11_far_64 : decode cX11_far 64 = .ok (.isub, 1) := by decide +kernel
theorem dX11_far_65 : decode cX11_far 65 = .ok (.goto 4, 3) := by decide +kernel
theorem dX11_far_68 : decode cX11_far 68 = .ok (.iconst 0, 1) := by decide +kernel
theorem dX11_far_69 : decode cX11_far 69 = .ok (.ireturn, 1) := by decide +kernel
theorem dX11_bestSlip_0 : decode cX11_bestSlip 0 = .ok (.aload_n 0, 1) := by decide +kernel
theorem dX11_bestSlip_1 : decode cX11_bestSlip 1 = .ok (.invokevirtual 207, 3) := by decide +kernel
theorem dX11_bestSlip_4 : decode cX11_bestSlip 4 = .ok (.aload_n 0, 1) := by decide +kernel
theorem dX11_bestSlip_5 : decode cX11_bestSlip 5 = .ok (.iload_n 1, 1) := by decide +kernel
theorem dX11_bestSlip_6 : decode cX11_bestSlip 6 = .ok (.invokevirtual 191, 3) := by decide +kernel
theorem dX11_bestSlip_9 : decode cX11_bestSlip 9 = .ok (.ifCond .eq 5, 3) := by decide +kernel
theorem dX11_bestSlip_12 : decode cX11_bestSlip 12 = .ok (.iconst 0, 1) := by decide +kernel
theorem dX11_bestSlip_13 : decode cX11_bestSlip 13 = .ok (.ireturn, 1) := by decide +kernel
theorem dX11_bestSlip_14 : decode cX11_bestSlip 14 = .ok (.iconst (-1), 1) := by decide +kernel
theorem dX11_bestSlip_15 : decode cX11_bestSlip 15 = .ok (.istore_n 2, 1) := by decide +kernel
theorem dX11_bestSlip_16 : decode cX11_bestSlip 16 = .ok (.iconst 0, 1) := by decide +kernel
theorem dX11_bestSlip_17 : decode cX11_bestSlip 17 = .ok (.istore_n 3, 1) := by decide +kernel
theorem dX11_bestSlip_18 : decode cX11_bestSlip 18 = .ok (.iconst 0, 1) := by decide +kernel
theorem dX11_bestSlip_19 : decode cX11_bestSlip 19 = .ok (.istore 4, 2) := by decide +kernel
theorem dX11_bestSlip_21 : decode cX11_bestSlip 21 = .ok (.iload 4, 2) := by decide +kernel
theorem dX11_bestSlip_23 : decode cX11_bestSlip 23 = .ok (.bipush 19, 2) := by decide +kernel
theorem dX11_bestSlip_25 : decode cX11_bestSlip 25 = .ok (.if_icmp .ge 87, 3) := by decide +kernel
theorem dX11_bestSlip_28 : decode cX11_bestSlip 28 = .ok (.iload 4, 2) := by decide +kernel
theorem dX11_bestSlip_30 : decode cX11_bestSlip 30 = .ok (.iconst 2, 1) := by decide +kernel
theorem dX11_bestSlip_31 : decode cX11_bestSlip 31 = .ok (.irem, 1) := by decide +kernel
theorem dX11_bestSlip_32 : decode cX11_bestSlip 32 = .ok (.iconst 1, 1) := by decide +kernel
theorem dX11_bestSlip_33 : decode cX11_bestSlip 33 = .ok (.if_icmp .ne 13, 3) := by decide +kernel
theorem dX11_bestSlip_36 : decode cX11_bestSlip 36 = .ok (.iload 4, 2) := by decide +kernel
theorem dX11_bestSlip_38 : decode cX11_bestSlip 38 = .ok (.iconst 1, 1) := by decide +kernel
theorem dX11_bestSlip_39 : decode cX11_bestSlip 39 = .ok (.iadd, 1) := by decide +kernel
theorem dX11_bestSlip_40 : decode cX11_bestSlip 40 = .ok (.ineg, 1) := by decide +kernel
theorem dX11_bestSlip_41 : decode cX11_bestSlip 41 = .ok (.iconst 2, 1) := by decide +kernel
theorem dX11_bestSlip_42 : decode cX11_bestSlip 42 = .ok (.idiv, 1) := by decide +kernel
theorem dX11_bestSlip_43 : decode cX11_bestSlip 43 = .ok (.goto 7, 3) := by decide +kernel
theorem dX11_bestSlip_46 : decode cX11_bestSlip 46 = .ok (.iload 4, 2) := by decide +kernel
theorem dX11_bestSlip_48 : decode cX11_bestSlip 48 = .ok (.iconst 2, 1) := by decide +kernel
theorem dX11_bestSlip_49 : decode cX11_bestSlip 49 = .ok (.idiv, 1) := by decide +kernel
theorem dX11_bestSlip_50 : decode cX11_bestSlip 50 = .ok (.istore 5, 2) := by decide +kernel
theorem dX11_bestSlip_52 : decode cX11_bestSlip 52 = .ok (.aload_n 0, 1) := by decide +kernel
theorem dX11_bestSlip_53 : decode cX11_bestSlip 53 = .ok (.getfield 16, 3) := by decide +kernel
theorem dX11_bestSlip_56 : decode cX11_bestSlip 56 = .ok (.iconst 0, 1) := by decide +kernel
theorem dX11_bestSlip_57 : decode cX11_bestSlip 57 = .ok (.aload_n 0, 1) := by decide +kernel
theorem dX11_bestSlip_58 : decode cX11_bestSlip 58 = .ok (.getfield 7, 3) := by decide +kernel
theorem dX11_bestSlip_61 : decode cX11_bestSlip 61 = .ok (.iconst 0, 1) := by decide +kernel
theorem dX11_bestSlip_62 : decode cX11_bestSlip 62 = .ok (.invokestatic 200, 3) := by decide +kernel
theorem dX11_bestSlip_65 : decode cX11_bestSlip 65 = .ok (.aload_n 0, 1) := by decide +kernel
theorem dX11_bestSlip_66 : decode cX11_bestSlip 66 = .ok (.getfield 7, 3) := by decide +kernel
theorem dX11_bestSlip_69 : decode cX11_bestSlip 69 = .ok (.iconst 5, 1) := by decide +kernel
theorem dX11_bestSlip_70 : decode cX11_bestSlip 70 = .ok (.iload 5, 2) := by decide +kernel
theorem dX11_bestSlip_72 : decode cX11_bestSlip 72 = .ok (.iastore, 1) := by decide +kernel
theorem dX11_bestSlip_73 : decode cX11_bestSlip 73 = .ok (.aload_n 0, 1) := by decide +kernel
theorem dX11_bestSlip_74 : decode cX11_bestSlip 74 = .ok (.invokevirtual 213, 3) := by decide +kernel
theorem dX11_bestSlip_77 : decode cX11_bestSlip 77 = .ok (.ifCond .eq 29, 3) := by decide +kernel
theorem dX11_bestSlip_80 : decode cX11_bestSlip 80 = .ok (.iload_n 2, 1) := by decide +kernel
theorem dX11_bestSlip_81 : decode cX11_bestSlip 81 = .ok (.iconst (-1), 1) := by decide +kernel
theorem dX11_bestSlip_82 : decode cX11_bestSlip 82 = .ok (.if_icmp .eq 12, 3) := by decide +kernel
theorem dX11_bestSlip_85 : decode cX11_bestSlip 85 = .ok (.aload_n 0, 1) := by decide +kernel
theorem dX11_bestSlip_86 : decode cX11_bestSlip 86 = .ok (.iload_n 1, 1) := by decide +kernel
theorem dX11_bestSlip_87 : decode cX11_bestSlip 87 = .ok (.invokevirtual 216, 3) := by decide +kernel
theorem dX11_bestSlip_90 : decode cX11_bestSlip 90 = .ok (.iload_n 3, 1) := by decide +kernel
theorem dX11_bestSlip_91 : decode cX11_bestSlip 91 = .ok (.if_icmp .ge 15, 3) := by decide +kernel
theorem dX11_bestSlip_94 : decode cX11_bestSlip 94 = .ok (.iload 5, 2) := by decide +kernel
theorem dX11_bestSlip_96 : decode cX11_bestSlip 96 = .ok (.bipush 9, 2) := by decide +kernel
theorem dX11_bestSlip_98 : decode cX11_bestSlip 98 = .ok (.iadd, 1) := by decide +kernel
theorem dX11_bestSlip_99 : decode cX11_bestSlip 99 = .ok (.istore_n 2, 1) := by decide +kernel
theorem dX11_bestSlip_100 : decode cX11_bestSlip 100 = .ok (.aload_n 0, 1) := by decide +kernel
theorem dX11_bestSlip_101 : decode cX11_bestSlip 101 = .ok (.iload_n 1, 1) := by decide +kernel
theorem dX11_bestSlip_102 : decode cX11_bestSlip 102 = .ok (.invokevirtual 216, 3) := by decide +kernel
theorem dX11_bestSlip_105 : decode cX11_bestSlip 105 = .ok (.istore_n 3, 1) := by decide +kernel
theorem dX11_bestSlip_106 : decode cX11_bestSlip 106 = .ok (.iinc 4 1, 3) := by decide +kernel
theorem dX11_bestSlip_109 : decode cX11_bestSlip 109 = .ok (.goto (-88), 3) := by decide +kernel
theorem dX11_bestSlip_112 : decode cX11_bestSlip 112 = .ok (.aload_n 0, 1) := by decide +kernel
theorem dX11_bestSlip_113 : decode cX11_bestSlip 113 = .ok (.iload_n 2, 1) := by decide +kernel
theorem dX11_bestSlip_114 : decode cX11_bestSlip 114 = .ok (.invokevirtual 210, 3) := by decide +kernel
theorem dX11_bestSlip_117 : decode cX11_bestSlip 117 = .ok (.ireturn, 1) := by decide +kernel
theorem dX11_reachable_0 : decode cX11_reachable 0 = .ok (.aload_n 0, 1) := by decide +kernel
theorem dX11_reachable_1 : decode cX11_reachable 1 = .ok (.invokevirtual 207, 3) := by decide +kernel
theorem dX11_reachable_4 : decode cX11_reachable 4 = .ok (.iconst 0, 1) := by decide +kernel
theorem dX11_reachable_5 : decode cX11_reachable 5 = .ok (.istore_n 1, 1) := by decide +kernel
theorem dX11_reachable_6 : decode cX11_reachable 6 = .ok (.bipush (-9), 2) := by decide +kernel
theorem dX11_reachable_8 : decode cX11_reachable 8 = .ok (.istore_n 2, 1) := by decide +kernel
theorem dX11_reachable_9 : decode cX11_reachable 9 = .ok (.iload_n 2, 1) := by decide +kernel
theorem dX11_reachable_10 : decode cX11_reachable 10 = .ok (.bipush 10, 2) := by decide +kernel
theorem dX11_reachable_12 : decode cX11_reachable 12 = .ok (.if_icmp .ge 79, 3) := by decide +kernel
theorem dX11_reachable_15 : decode cX11_reachable 15 = .ok (.aload_n 0, 1) := by decide +kernel
theorem dX11_reachable_16 : decode cX11_reachable 16 = .ok (.getfield 16, 3) := by decide +kernel
theorem dX11_reachable_19 : decode cX11_reachable 19 = .ok (.iconst 0, 1) := by decide +kernel
theorem dX11_reachable_20 : decode cX11_reachable 20 = .ok (.aload_n 0, 1) := by decide +kernel
theorem dX11_reachable_21 : decode cX11_reachable 21 = .ok (.getfield 7, 3) := by decide +kernel
theorem dX11_reachable_24 : decode cX11_reachable 24 = .ok (.iconst 0, 1) := by decide +kernel
theorem dX11_reachable_25 : decode cX11_reachable 25 = .ok (.invokestatic 200, 3) := by decide +kernel
theorem dX11_reachable_28 : decode cX11_reachable 28 = .ok (.aload_n 0, 1) := by decide +kernel
theorem dX11_reachable_29 : decode cX11_reachable 29 = .ok (.getfield 7, 3) := by decide +kernel
theorem dX11_reachable_32 : decode cX11_reachable 32 = .ok (.iconst 5, 1) := by decide +kernel
theorem dX11_reachable_33 : decode cX11_reachable 33 = .ok (.iload_n 2, 1) := by decide +kernel
theorem dX11_reachable_34 : decode cX11_reachable 34 = .ok (.iastore, 1) := by decide +kernel
theorem dX11_reachable_35 : decode cX11_reachable 35 = .ok (.aload_n 0, 1) := by decide +kernel
theorem dX11_reachable_36 : decode cX11_reachable 36 = .ok (.invokevirtual 213, 3) := by decide +kernel
theorem dX11_reachable_39 : decode cX11_reachable 39 = .ok (.istore_n 3, 1) := by decide +kernel
theorem dX11_reachable_40 : decode cX11_reachable 40 = .ok (.iconst 0, 1) := by decide +kernel
theorem dX11_reachable_41 : decode cX11_reachable 41 = .ok (.istore 4, 2) := by decide +kernel
theorem dX11_reachable_43 : decode cX11_reachable 43 = .ok (.iload 4, 2) := by decide +kernel
theorem dX11_reachable_45 : decode cX11_reachable 45 = .ok (.aload_n 0, 1) := by decide +kernel
theorem dX11_reachable_46 : decode cX11_reachable 46 = .ok (.getfield 7, 3) := by decide +kernel
theorem dX11_reachable_49 : decode cX11_reachable 49 = .ok (.bipush 12, 2) := by decide +kernel
theorem dX11_reachable_51 : decode cX11_reachable 51 = .ok (.iaload, 1) := by decide +kernel
theorem dX11_reachable_52 : decode cX11_reachable 52 = .ok (.if_icmp .ge 33, 3) := by decide +kernel
theorem dX11_reachable_55 : decode cX11_reachable 55 = .ok (.iload_n 1, 1) := by decide +kernel
theorem dX11_reachable_56 : decode cX11_reachable 56 = .ok (.iload_n 3, 1) := by decide +kernel
theorem dX11_reachable_57 : decode cX11_reachable 57 = .ok (.ifCond .eq 19, 3) := by decide +kernel
theorem dX11_reachable_60 : decode cX11_reachable 60 = .ok (.aload_n 0, 1) := by decide +kernel
theorem dX11_reachable_61 : decode cX11_reachable 61 = .ok (.iload 4, 2) := by decide +kernel
theorem dX11_reachable_63 : decode cX11_reachable 63 = .ok (.invokevirtual 216, 3) := by decide +kernel
theorem dX11_reachable_66 : decode cX11_reachable 66 = .ok (.ifCond .ne 10, 3) := by decide +kernel
theorem dX11_reachable_69 : decode cX11_reachable 69 = .ok (.iconst 1, 1) := by decide +kernel
theorem dX11_reachable_70 : decode cX11_reachable 70 = .ok (.iload 4, 2) := by decide +kernel
theorem dX11_reachable_72 : decode cX11_reachable 72 = .ok (.ishl, 1) := by decide +kernel
theorem dX11_reachable_73 : decode cX11_reachable 73 = .ok (.goto 4, 3) := by decide +kernel
theorem dX11_reachable_76 : decode cX11_reachable 76 = .ok (.iconst 0, 1) := by decide +kernel
theorem dX11_reachable_77 : decode cX11_reachable 77 = .ok (.ior, 1) := by decide +kernel
theorem dX11_reachable_78 : decode cX11_reachable 78 = .ok (.istore_n 1, 1) := by decide +kernel
theorem dX11_reachable_79 : decode cX11_reachable 79 = .ok (.iinc 4 1, 3) := by decide +kernel
theorem dX11_reachable_82 : decode cX11_reachable 82 = .ok (.goto (-39), 3) := by decide +kernel
theorem dX11_reachable_85 : decode cX11_reachable 85 = .ok (.iinc 2 1, 3) := by decide +kernel
theorem dX11_reachable_88 : decode cX11_reachable 88 = .ok (.goto (-79), 3) := by decide +kernel
theorem dX11_reachable_91 : decode cX11_reachable 91 = .ok (.aload_n 0, 1) := by decide +kernel
theorem dX11_reachable_92 : decode cX11_reachable 92 = .ok (.iload_n 1, 1) := by decide +kernel
theorem dX11_reachable_93 : decode cX11_reachable 93 = .ok (.invokevirtual 210, 3) := by decide +kernel
theorem dX11_reachable_96 : decode cX11_reachable 96 = .ok (.ireturn, 1) := by decide +kernel
theorem dX11_keeps_0 : decode cX11_keeps 0 = .ok (.aload_n 0, 1) := by decide +kernel
theorem dX11_keeps_1 : decode cX11_keeps 1 = .ok (.getfield 176, 3) := by decide +kernel
theorem dX11_keeps_4 : decode cX11_keeps 4 = .ok (.bipush 8, 2) := by decide +kernel
theorem dX11_keeps_6 : decode cX11_keeps 6 = .ok (.if_icmp .ne 52, 3) := by decide +kernel
theorem dX11_keeps_9 : decode cX11_keeps 9 = .ok (.aload_n 0, 1) := by decide +kernel
theorem dX11_keeps_10 : decode cX11_keeps 10 = .ok (.dup, 1) := by decide +kernel
theorem dX11_keeps_11 : decode cX11_keeps 11 = .ok (.getfield 176, 3) := by decide +kernel
theorem dX11_keeps_14 : decode cX11_keeps 14 = .ok (.iconst 1, 1) := by decide +kernel
theorem dX11_keeps_15 : decode cX11_keeps 15 = .ok (.isub, 1) := by decide +kernel
theorem dX11_keeps_16 : decode cX11_keeps 16 = .ok (.putfield 176, 3) := by decide +kernel
theorem dX11_keeps_19 : decode cX11_keeps 19 = .ok (.iconst 0, 1) := by decide +kernel
theorem dX11_keeps_20 : decode cX11_keeps 20 = .ok (.istore_n 1, 1) := by decide +kernel
theorem dX11_keeps_21 : decode cX11_keeps 21 = .ok (.iload_n 1, 1) := by decide +kernel
theorem dX11_keeps_22 : decode cX11_keeps 22 = .ok (.aload_n 0, 1) := by decide +kernel
theorem dX11_keeps_23 : decode cX11_keeps 23 = .ok (.getfield 176, 3) := by decide +kernel
theorem dX11_keeps_26 : decode cX11_keeps 26 = .ok (.if_icmp .ge 32, 3) := by decide +kernel
theorem dX11_keeps_29 : decode cX11_keeps 29 = .ok (.aload_n 0, 1) := by decide +kernel
theorem dX11_keeps_30 : decode cX11_keeps 30 = .ok (.getfield 19, 3) := by decide +kernel
theorem dX11_keeps_33 : decode cX11_keeps 33 = .ok (.sipush 268, 3) := by decide +kernel
theorem dX11_keeps_36 : decode cX11_keeps 36 = .ok (.iload_n 1, 1) := by decide +kernel
theorem dX11_keeps_37 : decode cX11_keeps 37 = .ok (.iconst 1, 1) := by decide +kernel
theorem dX11_keeps_38 : decode cX11_keeps 38 = .ok (.iadd, 1) := by decide +kernel
theorem dX11_keeps_39 : decode cX11_keeps 39 = .ok (.imul, 1) := by decide +kernel
theorem dX11_keeps_40 : decode cX11_keeps 40 = .ok (.aload_n 0, 1) := by decide +kernel
theorem dX11_keeps_41 : decode cX11_keeps 41 = .ok (.getfield 19, 3) := by decide +kernel
theorem dX11_keeps_44 : decode cX11_keeps 44 = .ok (.sipush 268, 3) := by decide +kernel
theorem dX11_keeps_47 : decode cX11_keeps 47 = .ok (.iload_n 1, 1) := by decide +kernel
theorem dX11_keeps_48 : decode cX11_keeps 48 = .ok (.imul, 1) := by decide +kernel
theorem dX11_keeps_49 : decode cX11_keeps 49 = .ok (.invokestatic 200, 3) := by decide +kernel
theorem dX11_keeps_52 : decode cX11_keeps 52 = .ok (.iinc 1 1, 3) := by decide +kernel
theorem dX11_keeps_55 : decode cX11_keeps 55 = .ok (.goto (-34), 3) := by decide +kernel
theorem dX11_keeps_58 : decode cX11_keeps 58 = .ok (.aload_n 0, 1) := by decide +kernel
theorem dX11_keeps_59 : decode cX11_keeps 59 = .ok (.getfield 7, 3) := by decide +kernel
theorem dX11_keeps_62 : decode cX11_keeps 62 = .ok (.iconst 0, 1) := by decide +kernel
theorem dX11_keeps_63 : decode cX11_keeps 63 = .ok (.aload_n 0, 1) := by decide +kernel
theorem dX11_keeps_64 : decode cX11_keeps 64 = .ok (.getfield 19, 3) := by decide +kernel
theorem dX11_keeps_67 : decode cX11_keeps 67 = .ok (.sipush 268, 3) := by decide +kernel
theorem dX11_keeps_70 : decode cX11_keeps 70 = .ok (.aload_n 0, 1) := by decide +kernel
theorem dX11_keeps_71 : decode cX11_keeps 71 = .ok (.getfield 176, 3) := by decide +kernel
theorem dX11_keeps_74 : decode cX11_keeps 74 = .ok (.imul, 1) := by decide +kernel
theorem dX11_keeps_75 : decode cX11_keeps 75 = .ok (.invokestatic 200, 3) := by decide +kernel
theorem dX11_keeps_78 : decode cX11_keeps 78 = .ok (.aload_n 0, 1) := by decide +kernel
theorem dX11_keeps_79 : decode cX11_keeps 79 = .ok (.dup, 1) := by decide +kernel
theorem dX11_keeps_80 : decode cX11_keeps 80 = .ok (.getfield 176, 3) := by decide +kernel
theorem dX11_keeps_83 : decode cX11_keeps 83 = .ok (.iconst 1, 1) := by decide +kernel
theorem dX11_keeps_84 : decode cX11_keeps 84 = .ok (.iadd, 1) := by decide +kernel
theorem dX11_keeps_85 : decode cX11_keeps 85 = .ok (.putfield 176, 3) := by decide +kernel
theorem dX11_keeps_88 : decode cX11_keeps 88 = .ok (.aload_n 0, 1) := by decide +kernel
theorem dX11_keeps_89 : decode cX11_keeps 89 = .ok (.getfield 29, 3) := by decide +kernel
theorem dX11_keeps_92 : decode cX11_keeps 92 = .ok (.iconst 0, 1) := by decide +kernel
theorem dX11_keeps_93 : decode cX11_keeps 93 = .ok (.dup2, 1) := by decide +kernel
theorem dX11_keeps_94 : decode cX11_keeps 94 = .ok (.iaload, 1) := by decide +kernel
theorem dX11_keeps_95 : decode cX11_keeps 95 = .ok (.iconst 1, 1) := by decide +kernel
theorem dX11_keeps_96 : decode cX11_keeps 96 = .ok (.iadd, 1) := by decide +kernel
theorem dX11_keeps_97 : decode cX11_keeps 97 = .ok (.iastore, 1) := by decide +kernel
theorem dX11_keeps_98 : decode cX11_keeps 98 = .ok (.return_, 1) := by decide +kernel
theorem dX11_refused_0 : decode cX11_refused 0 = .ok (.aload_n 0, 1) := by decide +kernel
theorem dX11_refused_1 : decode cX11_refused 1 = .ok (.getfield 29, 3) := by decide +kernel
theorem dX11_refused_4 : decode cX11_refused 4 = .ok (.iload_n 1, 1) := by decide +kernel
theorem dX11_refused_5 : decode cX11_refused 5 = .ok (.dup2, 1) := by decide +kernel
theorem dX11_refused_6 : decode cX11_refused 6 = .ok (.iaload, 1) := by decide +kernel
theorem dX11_refused_7 : decode cX11_refused 7 = .ok (.iconst 1, 1) := by decide +kernel
theorem dX11_refused_8 : decode cX11_refused 8 = .ok (.iadd, 1) := by decide +kernel
theorem dX11_refused_9 : decode cX11_refused 9 = .ok (.iastore, 1) := by decide +kernel
theorem dX11_refused_10 : decode cX11_refused 10 = .ok (.iload_n 1, 1) := by decide +kernel
theorem dX11_refused_11 : decode cX11_refused 11 = .ok (.ineg, 1) := by decide +kernel
theorem dX11_refused_12 : decode cX11_refused 12 = .ok (.ireturn, 1) := by decide +kernel
theorem dX11_ticks_0 : decode cX11_ticks 0 = .ok (.aload_n 0, 1) := by decide +kernel
theorem dX11_ticks_1 : decode cX11_ticks 1 = .ok (.getfield 7, 3) := by decide +kernel
theorem dX11_ticks_4 : decode cX11_ticks 4 = .ok (.iconst 0, 1) := by decide +kernel
theorem dX11_ticks_5 : decode cX11_ticks 5 = .ok (.iaload, 1) := by decide +kernel
theorem dX11_ticks_6 : decode cX11_ticks 6 = .ok (.ifCond .ne 9, 3) := by decide +kernel
theorem dX11_ticks_9 : decode cX11_ticks 9 = .ok (.aload_n 0, 1) := by decide +kernel
theorem dX11_ticks_10 : decode cX11_ticks 10 = .ok (.iconst 1, 1) := by decide +kernel
theorem dX11_ticks_11 : decode cX11_ticks 11 = .ok (.invokevirtual 219, 3) := by decide +kernel
theorem dX11_ticks_14 : decode cX11_ticks 14 = .ok (.ireturn, 1) := by decide +kernel
theorem dX11_ticks_15 : decode cX11_ticks 15 = .ok (.aload_n 0, 1) := by decide +kernel
theorem dX11_ticks_16 : decode cX11_ticks 16 = .ok (.invokevirtual 222, 3) := by decide +kernel
theorem dX11_ticks_19 : decode cX11_ticks 19 = .ok (.aload_n 0, 1) := by decide +kernel
theorem dX11_ticks_20 : decode cX11_ticks 20 = .ok (.iload_n 1, 1) := by decide +kernel
theorem dX11_ticks_21 : decode cX11_ticks 21 = .ok (.iconst 0, 1) := by decide +kernel
theorem dX11_ticks_22 : decode cX11_ticks 22 = .ok (.invokevirtual 204, 3) := by decide +kernel
theorem dX11_ticks_25 : decode cX11_ticks 25 = .ok (.ireturn, 1) := by decide +kernel
theorem dX11_tick_0 : decode cX11_tick 0 = .ok (.aload_n 0, 1) := by decide +kernel
theorem dX11_tick_1 : decode cX11_tick 1 = .ok (.iconst 0, 1) := by decide +kernel
theorem dX11_tick_2 : decode cX11_tick 2 = .ok (.putfield 50, 3) := by decide +kernel
theorem dX11_tick_5 : decode cX11_tick 5 = .ok (.aload_n 0, 1) := by decide +kernel
theorem dX11_tick_6 : decode cX11_tick 6 = .ok (.iload_n 1, 1) := by decide +kernel
theorem dX11_tick_7 : decode cX11_tick 7 = .ok (.iconst 1, 1) := by decide +kernel
theorem dX11_tick_8 : decode cX11_tick 8 = .ok (.sipush 200, 3) := by decide +kernel
theorem dX11_tick_11 : decode cX11_tick 11 = .ok (.invokestatic 57, 3) := by decide +kernel
theorem dX11_tick_14 : decode cX11_tick 14 = .ok (.ifCond .ne 7, 3) := by decide +kernel
theorem dX11_tick_17 : decode cX11_tick 17 = .ok (.iconst 1, 1) := by decide +kernel
theorem dX11_tick_18 : decode cX11_tick 18 = .ok (.goto 4, 3) := by decide +kernel
theorem dX11_tick_21 : decode cX11_tick 21 = .ok (.iconst 0, 1) := by decide +kernel
theorem dX11_tick_22 : decode cX11_tick 22 = .ok (.iconst 1, 1) := by decide +kernel
theorem dX11_tick_23 : decode cX11_tick 23 = .ok (.invokevirtual 61, 3) := by decide +kernel
theorem dX11_tick_26 : decode cX11_tick 26 = .ok (.ifCond .eq 7, 3) := by decide +kernel
theorem dX11_tick_29 : decode cX11_tick 29 = .ok (.iconst 0, 1) := by decide +kernel
theorem dX11_tick_30 : decode cX11_tick 30 = .ok (.goto 8, 3) := by decide +kernel
theorem dX11_tick_33 : decode cX11_tick 33 = .ok (.aload_n 0, 1) := by decide +kernel
theorem dX11_tick_34 : decode cX11_tick 34 = .ok (.iload_n 1, 1) := by decide +kernel
theorem dX11_tick_35 : decode cX11_tick 35 = .ok (.invokevirtual 225, 3) := by decide +kernel
theorem dX11_tick_38 : decode cX11_tick 38 = .ok (.ireturn, 1) := by decide +kernel
theorem dX11_falls_0 : decode cX11_falls 0 = .ok (.aload_n 0, 1) := by decide +kernel
theorem dX11_falls_1 : decode cX11_falls 1 = .ok (.getfield 7, 3) := by decide +kernel
theorem dX11_falls_4 : decode cX11_falls 4 = .ok (.iconst 0, 1) := by decide +kernel
theorem dX11_falls_5 : decode cX11_falls 5 = .ok (.iaload, 1) := by decide +kernel
theorem dX11_falls_6 : decode cX11_falls 6 = .ok (.ifCond .ne 9, 3) := by decide +kernel
theorem dX11_falls_9 : decode cX11_falls 9 = .ok (.aload_n 0, 1) := by decide +kernel
theorem dX11_falls_10 : decode cX11_falls 10 = .ok (.iconst 1, 1) := by decide +kernel
theorem dX11_falls_11 : decode cX11_falls 11 = .ok (.invokevirtual 219, 3) := by decide +kernel
theorem dX11_falls_14 : decode cX11_falls 14 = .ok (.ireturn, 1) := by decide +kernel
theorem dX11_falls_15 : decode cX11_falls 15 = .ok (.aload_n 0, 1) := by decide +kernel
theorem dX11_falls_16 : decode cX11_falls 16 = .ok (.getfield 7, 3) := by decide +kernel
theorem dX11_falls_19 : decode cX11_falls 19 = .ok (.iconst 0, 1) := by decide +kernel
theorem dX11_falls_20 : decode cX11_falls 20 = .ok (.iaload, 1) := by decide +kernel
theorem dX11_falls_21 : decode cX11_falls 21 = .ok (.iload_n 1, 1) := by decide +kernel
theorem dX11_falls_22 : decode cX11_falls 22 = .ok (.if_icmp .gt 9, 3) := by decide +kernel
theorem dX11_falls_25 : decode cX11_falls 25 = .ok (.aload_n 0, 1) := by decide +kernel
theorem dX11_falls_26 : decode cX11_falls 26 = .ok (.iconst 2, 1) := by decide +kernel
theorem dX11_falls_27 : decode cX11_falls 27 = .ok (.invokevirtual 219, 3) := by decide +kernel
theorem dX11_falls_30 : decode cX11_falls 30 = .ok (.ireturn, 1) := by decide +kernel
theorem dX11_falls_31 : decode cX11_falls 31 = .ok (.aload_n 0, 1) := by decide +kernel
theorem dX11_falls_32 : decode cX11_falls 32 = .ok (.invokevirtual 222, 3) := by decide +kernel
theorem dX11_falls_35 : decode cX11_falls 35 = .ok (.aload_n 0, 1) := by decide +kernel
theorem dX11_falls_36 : decode cX11_falls 36 = .ok (.sipush 3000, 3) := by decide +kernel
theorem dX11_falls_39 : decode cX11_falls 39 = .ok (.iload_n 1, 1) := by decide +kernel
theorem dX11_falls_40 : decode cX11_falls 40 = .ok (.invokevirtual 204, 3) := by decide +kernel
theorem dX11_falls_43 : decode cX11_falls 43 = .ok (.ireturn, 1) := by decide +kernel
theorem dX11_fallTo_0 : decode cX11_fallTo 0 = .ok (.aload_n 0, 1) := by decide +kernel
theorem dX11_fallTo_1 : decode cX11_fallTo 1 = .ok (.iload_n 1, 1) := by decide +kernel
theorem dX11_fallTo_2 : decode cX11_fallTo 2 = .ok (.sipush 30000, 3) := by decide +kernel
theorem dX11_fallTo_5 : decode cX11_fallTo 5 = .ok (.invokevirtual 170, 3) := by decide +kernel
theorem dX11_fallTo_8 : decode cX11_fallTo 8 = .ok (.ifCond .eq 7, 3) := by decide +kernel
theorem dX11_fallTo_11 : decode cX11_fallTo 11 = .ok (.iconst 0, 1) := by decide +kernel
theorem dX11_fallTo_12 : decode cX11_fallTo 12 = .ok (.goto 8, 3) := by decide +kernel
theorem dX11_fallTo_15 : decode cX11_fallTo 15 = .ok (.aload_n 0, 1) := by decide +kernel
theorem dX11_fallTo_16 : decode cX11_fallTo 16 = .ok (.iload_n 1, 1) := by decide +kernel
theorem dX11_fallTo_17 : decode cX11_fallTo 17 = .ok (.invokevirtual 228, 3) := by decide +kernel
theorem dX11_fallTo_20 : decode cX11_fallTo 20 = .ok (.ireturn, 1) := by decide +kernel
theorem dX11_opensIt_0 : decode cX11_opensIt 0 = .ok (.aload_n 0, 1) := by decide +kernel
theorem dX11_opensIt_1 : decode cX11_opensIt 1 = .ok (.getfield 7, 3) := by decide +kernel
theorem dX11_opensIt_4 : decode cX11_opensIt 4 = .ok (.iconst 0, 1) := by decide +kernel
theorem dX11_opensIt_5 : decode cX11_opensIt 5 = .ok (.iaload, 1) := by decide +kernel
theorem dX11_opensIt_6 : decode cX11_opensIt 6 = .ok (.ifCond .ne 7, 3) := by decide +kernel
theorem dX11_opensIt_9 : decode cX11_opensIt 9 = .ok (.iconst 1, 1) := by decide +kernel
theorem dX11_opensIt_10 : decode cX11_opensIt 10 = .ok (.goto 64, 3) := by decide +kernel
theorem dX11_opensIt_13 : decode cX11_opensIt 13 = .ok (.aload_n 0, 1) := by decide +kernel
theorem dX11_opensIt_14 : decode cX11_opensIt 14 = .ok (.getfield 7, 3) := by decide +kernel
theorem dX11_opensIt_17 : decode cX11_opensIt 17 = .ok (.bipush 65, 2) := by decide +kernel
theorem dX11_opensIt_19 : decode cX11_opensIt 19 = .ok (.iload_n 1, 1) := by decide +kernel
theorem dX11_opensIt_20 : decode cX11_opensIt 20 = .ok (.iadd, 1) := by decide +kernel
theorem dX11_opensIt_21 : decode cX11_opensIt 21 = .ok (.iaload, 1) := by decide +kernel
theorem dX11_opensIt_22 : decode cX11_opensIt 22 = .ok (.ifCond .eq 7, 3) := by decide +kernel
theorem dX11_opensIt_25 : decode cX11_opensIt 25 = .ok (.iconst 3, 1) := by decide +kernel
theorem dX11_opensIt_26 : decode cX11_opensIt 26 = .ok (.goto 48, 3) := by decide +kernel
theorem dX11_opensIt_29 : decode cX11_opensIt 29 = .ok (.aload_n 0, 1) := by decide +kernel
theorem dX11_opensIt_30 : decode cX11_opensIt 30 = .ok (.getfield 7, 3) := by decide +kernel
theorem dX11_opensIt_33 : decode cX11_opensIt 33 = .ok (.iconst 0, 1) := by decide +kernel
theorem dX11_opensIt_34 : decode cX11_opensIt 34 = .ok (.iaload, 1) := by decide +kernel
theorem dX11_opensIt_35 : decode cX11_opensIt 35 = .ok (.aload_n 0, 1) := by decide +kernel
theorem dX11_opensIt_36 : decode cX11_opensIt 36 = .ok (.getfield 7, 3) := by decide +kernel
theorem dX11_opensIt_39 : decode cX11_opensIt 39 = .ok (.bipush 47, 2) := by decide +kernel
theorem dX11_opensIt_41 : decode cX11_opensIt 41 = .ok (.iload_n 1, 1) := by decide +kernel
theorem dX11_opensIt_42 : decode cX11_opensIt 42 = .ok (.iadd, 1) := by decide +kernel
theorem dX11_opensIt_43 : decode cX11_opensIt 43 = .ok (.iaload, 1) := by decide +kernel
theorem dX11_opensIt_44 : decode cX11_opensIt 44 = .ok (.if_icmp .le 7, 3) := by decide +kernel
theorem dX11_opensIt_47 : decode cX11_opensIt 47 = .ok (.iconst 4, 1) := by decide +kernel
theorem dX11_opensIt_48 : decode cX11_opensIt 48 = .ok (.goto 26, 3) := by decide +kernel
theorem dX11_opensIt_51 : decode cX11_opensIt 51 = .ok (.aload_n 0, 1) := by decide +kernel
theorem dX11_opensIt_52 : decode cX11_opensIt 52 = .ok (.getfield 7, 3) := by decide +kernel
theorem dX11_opensIt_55 : decode cX11_opensIt 55 = .ok (.iconst 1, 1) := by decide +kernel
theorem dX11_opensIt_56 : decode cX11_opensIt 56 = .ok (.iaload, 1) := by decide +kernel
theorem dX11_opensIt_57 : decode cX11_opensIt 57 = .ok (.aload_n 0, 1) := by decide +kernel
theorem dX11_opensIt_58 : decode cX11_opensIt 58 = .ok (.getfield 7, 3) := by decide +kernel
theorem dX11_opensIt_61 : decode cX11_opensIt 61 = .ok (.bipush 56, 2) := by decide +kernel
theorem dX11_opensIt_63 : decode cX11_opensIt 63 = .ok (.iload_n 1, 1) := by decide +kernel
theorem dX11_opensIt_64 : decode cX11_opensIt 64 = .ok (.iadd, 1) := by decide +kernel
theorem dX11_opensIt_65 : decode cX11_opensIt 65 = .ok (.iaload, 1) := by decide +kernel
theorem dX11_opensIt_66 : decode cX11_opensIt 66 = .ok (.if_icmp .le 7, 3) := by decide +kernel
theorem dX11_opensIt_69 : decode cX11_opensIt 69 = .ok (.iconst 5, 1) := by decide +kernel
theorem dX11_opensIt_70 : decode cX11_opensIt 70 = .ok (.goto 4, 3) := by decide +kernel
theorem dX11_opensIt_73 : decode cX11_opensIt 73 = .ok (.iconst 0, 1) := by decide +kernel
theorem dX11_opensIt_74 : decode cX11_opensIt 74 = .ok (.istore_n 2, 1) := by decide +kernel
theorem dX11_opensIt_75 : decode cX11_opensIt 75 = .ok (.iload_n 2, 1) := by decide +kernel
theorem dX11_opensIt_76 : decode cX11_opensIt 76 = .ok (.ifCond .le 9, 3) := by decide +kernel
theorem dX11_opensIt_79 : decode cX11_opensIt 79 = .ok (.aload_n 0, 1) := by decide +kernel
theorem dX11_opensIt_80 : decode cX11_opensIt 80 = .ok (.iload_n 2, 1) := by decide +kernel
theorem dX11_opensIt_81 : decode cX11_opensIt 81 = .ok (.invokevirtual 219, 3) := by decide +kernel
theorem dX11_opensIt_84 : decode cX11_opensIt 84 = .ok (.ireturn, 1) := by decide +kernel
theorem dX11_opensIt_85 : decode cX11_opensIt 85 = .ok (.aload_n 0, 1) := by decide +kernel
theorem dX11_opensIt_86 : decode cX11_opensIt 86 = .ok (.invokevirtual 222, 3) := by decide +kernel
theorem dX11_opensIt_89 : decode cX11_opensIt 89 = .ok (.aload_n 0, 1) := by decide +kernel
theorem dX11_opensIt_90 : decode cX11_opensIt 90 = .ok (.iload_n 1, 1) := by decide +kernel
theorem dX11_opensIt_91 : decode cX11_opensIt 91 = .ok (.invokevirtual 125, 3) := by decide +kernel
theorem dX11_opensIt_94 : decode cX11_opensIt 94 = .ok (.aload_n 0, 1) := by decide +kernel
theorem dX11_opensIt_95 : decode cX11_opensIt 95 = .ok (.getfield 7, 3) := by decide +kernel
theorem dX11_opensIt_98 : decode cX11_opensIt 98 = .ok (.bipush 65, 2) := by decide +kernel
theorem dX11_opensIt_100 : decode cX11_opensIt 100 = .ok (.iload_n 1, 1) := by decide +kernel
theorem dX11_opensIt_101 : decode cX11_opensIt 101 = .ok (.iadd, 1) := by decide +kernel
theorem dX11_opensIt_102 : decode cX11_opensIt 102 = .ok (.iaload, 1) := by decide +kernel
theorem dX11_opensIt_103 : decode cX11_opensIt 103 = .ok (.ireturn, 1) := by decide +kernel
theorem dX11_open_0 : decode cX11_open 0 = .ok (.aload_n 0, 1) := by decide +kernel
theorem dX11_open_1 : decode cX11_open 1 = .ok (.iconst 0, 1) := by decide +kernel
theorem dX11_open_2 : decode cX11_open 2 = .ok (.putfield 50, 3) := by decide +kernel
theorem dX11_open_5 : decode cX11_open 5 = .ok (.aload_n 0, 1) := by decide +kernel
theorem dX11_open_6 : decode cX11_open 6 = .ok (.iload_n 1, 1) := by decide +kernel
theorem dX11_open_7 : decode cX11_open 7 = .ok (.invokevirtual 194, 3) := by decide +kernel
theorem dX11_open_10 : decode cX11_open 10 = .ok (.ifCond .eq 7, 3) := by decide +kernel
theorem dX11_open_13 : decode cX11_open 13 = .ok (.iconst 0, 1) := by decide +kernel
theorem dX11_open_14 : decode cX11_open 14 = .ok (.goto 8, 3) := by decide +kernel
theorem dX11_open_17 : decode cX11_open 17 = .ok (.aload_n 0, 1) := by decide +kernel
theorem dX11_open_18 : decode cX11_open 18 = .ok (.iload_n 1, 1) := by decide +kernel
theorem dX11_open_19 : decode cX11_open 19 = .ok (.invokevirtual 231, 3) := by decide +kernel
theorem dX11_open_22 : decode cX11_open 22 = .ok (.ireturn, 1) := by decide +kernel
theorem dX11_openReserve_0 : decode cX11_openReserve 0 = .ok (.aload_n 0, 1) := by decide +kernel
theorem dX11_openReserve_1 : decode cX11_openReserve 1 = .ok (.iconst 0, 1) := by decide +kernel
theorem dX11_openReserve_2 : decode cX11_openReserve 2 = .ok (.putfield 50, 3) := by decide +kernel
theorem dX11_openReserve_5 : decode cX11_openReserve 5 = .ok (.aload_n 0, 1) := by decide +kernel
theorem dX11_openReserve_6 : decode cX11_openReserve 6 = .ok (.getfield 7, 3) := by decide +kernel
theorem dX11_openReserve_9 : decode cX11_openReserve 9 = .ok (.iconst 0, 1) := by decide +kernel
theorem dX11_openReserve_10 : decode cX11_openReserve 10 = .ok (.iaload, 1) := by decide +kernel
theorem dX11_openReserve_11 : decode cX11_openReserve 11 = .ok (.ifCond .ne 7, 3) := by decide +kernel
theorem dX11_openReserve_14 : decode cX11_openReserve 14 = .ok (.iconst 1, 1) := by decide +kernel
theorem dX11_openReserve_15 : decode cX11_openReserve 15 = .ok (.goto 80, 3) := by decide +kernel
theorem dX11_openReserve_18 : decode cX11_openReserve 18 = .ok (.aload_n 0, 1) := by decide +kernel
theorem dX11_openReserve_19 : decode cX11_openReserve 19 = .ok (.getfield 7, 3) := by decide +kernel
theorem dX11_openReserve_22 : decode cX11_openReserve 22 = .ok (.bipush 9, 2) := by decide +kernel
theorem dX11_openReserve_24 : decode cX11_openReserve 24 = .ok (.iaload, 1) := by decide +kernel
theorem dX11_openReserve_25 : decode cX11_openReserve 25 = .ok (.ifCond .eq 13, 3) := by decide +kernel
theorem dX11_openReserve_28 : decode cX11_openReserve 28 = .ok (.aload_n 0, 1) := by decide +kernel
theorem dX11_openReserve_29 : decode cX11_openReserve 29 = .ok (.getfield 7, 3) := by decide +kernel
theorem dX11_openReserve_32 : decode cX11_openReserve 32 = .ok (.bipush 73, 2) := by decide +kernel
theorem dX11_openReserve_34 : decode cX11_openReserve 34 = .ok (.iaload, 1) := by decide +kernel
theorem dX11_openReserve_35 : decode cX11_openReserve 35 = .ok (.ifCond .eq 7, 3) := by decide +kernel
theorem dX11_openReserve_38 : decode cX11_openReserve 38 = .ok (.iconst 3, 1) := by decide +kernel
theorem dX11_openReserve_39 : decode cX11_openReserve 39 = .ok (.goto 56, 3) := by decide +kernel
theorem dX11_openReserve_42 : decode cX11_openReserve 42 = .ok (.aload_n 0, 1) := by decide +kernel
theorem dX11_openReserve_43 : decode cX11_openReserve 43 = .ok (.getfield 7, 3) := by decide +kernel
theorem dX11_openReserve_46 : decode cX11_openReserve 46 = .ok (.iconst 0, 1) := by decide +kernel
theorem dX11_openReserve_47 : decode cX11_openReserve 47 = .ok (.iaload, 1) := by decide +kernel
theorem dX11_openReserve_48 : decode cX11_openReserve 48 = .ok (.aload_n 0, 1) := by decide +kernel
theorem dX11_openReserve_49 : decode cX11_openReserve 49 = .ok (.getfield 7, 3) := by decide +kernel
theorem dX11_openReserve_52 : decode cX11_openReserve 52 = .ok (.bipush 55, 2) := by decide +kernel
theorem dX11_openReserve_54 : decode cX11_openReserve 54 = .ok (.iaload, 1) := by decide +kernel
theorem dX11_openReserve_55 : decode cX11_openReserve 55 = .ok (.if_icmp .le 7, 3) := by decide +kernel
theorem dX11_openReserve_58 : decode cX11_openReserve 58 = .ok (.iconst 4, 1) := by decide +kernel
theorem dX11_openReserve_59 : decode cX11_openReserve 59 = .ok (.goto 36, 3) := by decide +kernel
theorem dX11_openReserve_62 : decode cX11_openReserve 62 = .ok (.aload_n 0, 1) := by decide +kernel
theorem dX11_openReserve_63 : decode cX11_openReserve 63 = .ok (.invokevirtual 72, 3) := by decide +kernel
theorem dX11_openReserve_66 : decode cX11_openReserve 66 = .ok (.aload_n 0, 1) := by decide +kernel
theorem dX11_openReserve_67 : decode cX11_openReserve 67 = .ok (.getfield 7, 3) := by decide +kernel
theorem dX11_openReserve_70 : decode cX11_openReserve 70 = .ok (.bipush 64, 2) := by decide +kernel
theorem dX11_openReserve_72 : decode cX11_openReserve 72 = .ok (.iaload, 1) := by decide +kernel
theorem dX11_openReserve_73 : decode cX11_openReserve 73 = .ok (.if_icmp .ge 8, 3) := by decide +kernel
theorem dX11_openReserve_76 : decode cX11_openReserve 76 = .ok (.bipush 6, 2) := by decide +kernel
theorem dX11_openReserve_78 : decode cX11_openReserve 78 = .ok (.goto 17, 3) := by decide +kernel
theorem dX11_openReserve_81 : decode cX11_openReserve 81 = .ok (.aload_n 0, 1) := by decide +kernel
theorem dX11_openReserve_82 : decode cX11_openReserve 82 = .ok (.invokevirtual 75, 3) := by decide +kernel
theorem dX11_openReserve_85 : decode cX11_openReserve 85 = .ok (.iconst (-1), 1) := by decide +kernel
theorem dX11_openReserve_86 : decode cX11_openReserve 86 = .ok (.if_icmp .eq 8, 3) := by decide +kernel
theorem dX11_openReserve_89 : decode cX11_openReserve 89 = .ok (.bipush 7, 2) := by decide +kernel
theorem dX11_openReserve_91 : decode cX11_openReserve 91 = .ok (.goto 4, 3) := by decide +kernel
theorem dX11_openReserve_94 : decode cX11_openReserve 94 = .ok (.iconst 0, 1) := by decide +kernel
theorem dX11_openReserve_95 : decode cX11_openReserve 95 = .ok (.istore_n 1, 1) := by decide +kernel
theorem dX11_openReserve_96 : decode cX11_openReserve 96 = .ok (.iload_n 1, 1) := by decide +kernel
theorem dX11_openReserve_97 : decode cX11_openReserve 97 = .ok (.ifCond .le 9, 3) := by decide +kernel
theorem dX11_openReserve_100 : decode cX11_openReserve 100 = .ok (.aload_n 0, 1) := by decide +kernel
theorem dX11_openReserve_101 : decode cX11_openReserve 101 = .ok (.iload_n 1, 1) := by decide +kernel
theorem dX11_openReserve_102 : decode cX11_openReserve 102 = .ok (.invokevirtual 219, 3) := by decide +kernel
theorem dX11_openReserve_105 : decode cX11_openReserve 105 = .ok (.ireturn, 1) := by decide +kernel
theorem dX11_openReserve_106 : decode cX11_openReserve 106 = .ok (.aload_n 0, 1) := by decide +kernel
theorem dX11_openReserve_107 : decode cX11_openReserve 107 = .ok (.invokevirtual 222, 3) := by decide +kernel
theorem dX11_openReserve_110 : decode cX11_openReserve 110 = .ok (.aload_n 0, 1) := by decide +kernel
theorem dX11_openReserve_111 : decode cX11_openReserve 111 = .ok (.invokevirtual 133, 3) := by decide +kernel
theorem dX11_openReserve_114 : decode cX11_openReserve 114 = .ok (.aload_n 0, 1) := by decide +kernel
theorem dX11_openReserve_115 : decode cX11_openReserve 115 = .ok (.invokevirtual 72, 3) := by decide +kernel
theorem dX11_openReserve_118 : decode cX11_openReserve 118 = .ok (.ireturn, 1) := by decide +kernel
theorem dX11_cuts_0 : decode cX11_cuts 0 = .ok (.aload_n 0, 1) := by decide +kernel
theorem dX11_cuts_1 : decode cX11_cuts 1 = .ok (.iload_n 1, 1) := by decide +kernel
theorem dX11_cuts_2 : decode cX11_cuts 2 = .ok (.invokevirtual 188, 3) := by decide +kernel
theorem dX11_cuts_5 : decode cX11_cuts 5 = .ok (.istore_n 2, 1) := by decide +kernel
theorem dX11_cuts_6 : decode cX11_cuts 6 = .ok (.aload_n 0, 1) := by decide +kernel
theorem dX11_cuts_7 : decode cX11_cuts 7 = .ok (.getfield 7, 3) := by decide +kernel
theorem dX11_cuts_10 : decode cX11_cuts 10 = .ok (.iconst 0, 1) := by decide +kernel
theorem dX11_cuts_11 : decode cX11_cuts 11 = .ok (.iaload, 1) := by decide +kernel
theorem dX11_cuts_12 : decode cX11_cuts 12 = .ok (.ifCond .ne 9, 3) := by decide +kernel
theorem dX11_cuts_15 : decode cX11_cuts 15 = .ok (.aload_n 0, 1) := by decide +kernel
theorem dX11_cuts_16 : decode cX11_cuts 16 = .ok (.iconst 1, 1) := by decide +kernel
theorem dX11_cuts_17 : decode cX11_cuts 17 = .ok (.invokevirtual 219, 3) := by decide +kernel
theorem dX11_cuts_20 : decode cX11_cuts 20 = .ok (.ireturn, 1) := by decide +kernel
theorem dX11_cuts_21 : decode cX11_cuts 21 = .ok (.aload_n 0, 1) := by decide +kernel
theorem dX11_cuts_22 : decode cX11_cuts 22 = .ok (.getfield 7, 3) := by decide +kernel
theorem dX11_cuts_25 : decode cX11_cuts 25 = .ok (.bipush 65, 2) := by decide +kernel
theorem dX11_cuts_27 : decode cX11_cuts 27 = .ok (.iload_n 2, 1) := by decide +kernel
theorem dX11_cuts_28 : decode cX11_cuts 28 = .ok (.iadd, 1) := by decide +kernel
theorem dX11_cuts_29 : decode cX11_cuts 29 = .ok (.iaload, 1) := by decide +kernel
theorem dX11_cuts_30 : decode cX11_cuts 30 = .ok (.iconst 1, 1) := by decide +kernel
theorem dX11_cuts_31 : decode cX11_cuts 31 = .ok (.if_icmp .eq 10, 3) := by decide +kernel
