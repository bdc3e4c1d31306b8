theorem dX11_cuts_34 : decode cX11_cuts 34 = .ok (.aload_n 0, 1) := by decide +kernel
theorem dX11_cuts_35 : decode cX11_cuts 35 = .ok (.bipush 8, 2) := by decide +kernel
theorem dX11_cuts_37 : decode cX11_cuts 37 = .ok (.invokevirtual 219, 3) := by decide +kernel
theorem dX11_cuts_40 : decode cX11_cuts 40 = .ok (.ireturn, 1) := by decide +kernel
theorem dX11_cuts_41 : decode cX11_cuts 41 = .ok (.aload_n 0, 1) := by decide +kernel
theorem dX11_cuts_42 : decode cX11_cuts 42 = .ok (.invokevirtual 222, 3) := by decide +kernel
theorem dX11_cuts_45 : decode cX11_cuts 45 = .ok (.aload_n 0, 1) := by decide +kernel
theorem dX11_cuts_46 : decode cX11_cuts 46 = .ok (.getfield 7, 3) := by decide +kernel
theorem dX11_cuts_49 : decode cX11_cuts 49 = .ok (.bipush 74, 2) := by decide +kernel
theorem dX11_cuts_51 : decode cX11_cuts 51 = .ok (.iload_n 2, 1) := by decide +kernel
theorem dX11_cuts_52 : decode cX11_cuts 52 = .ok (.iadd, 1) := by decide +kernel
theorem dX11_cuts_53 : decode cX11_cuts 53 = .ok (.iaload, 1) := by decide +kernel
theorem dX11_cuts_54 : decode cX11_cuts 54 = .ok (.invokestatic 100, 3) := by decide +kernel
theorem dX11_cuts_57 : decode cX11_cuts 57 = .ok (.istore_n 3, 1) := by decide +kernel
theorem dX11_cuts_58 : decode cX11_cuts 58 = .ok (.aload_n 0, 1) := by decide +kernel
theorem dX11_cuts_59 : decode cX11_cuts 59 = .ok (.getfield 7, 3) := by decide +kernel
theorem dX11_cuts_62 : decode cX11_cuts 62 = .ok (.bipush 65, 2) := by decide +kernel
theorem dX11_cuts_64 : decode cX11_cuts 64 = .ok (.iload_n 2, 1) := by decide +kernel
theorem dX11_cuts_65 : decode cX11_cuts 65 = .ok (.iadd, 1) := by decide +kernel
theorem dX11_cuts_66 : decode cX11_cuts 66 = .ok (.iconst 4, 1) := by decide +kernel
theorem dX11_cuts_67 : decode cX11_cuts 67 = .ok (.iastore, 1) := by decide +kernel
theorem dX11_cuts_68 : decode cX11_cuts 68 = .ok (.aload_n 0, 1) := by decide +kernel
theorem dX11_cuts_69 : decode cX11_cuts 69 = .ok (.getfield 7, 3) := by decide +kernel
theorem dX11_cuts_72 : decode cX11_cuts 72 = .ok (.bipush 15, 2) := by decide +kernel
theorem dX11_cuts_74 : decode cX11_cuts 74 = .ok (.dup2, 1) := by decide +kernel
theorem dX11_cuts_75 : decode cX11_cuts 75 = .ok (.iaload, 1) := by decide +kernel
theorem dX11_cuts_76 : decode cX11_cuts 76 = .ok (.iload_n 3, 1) := by decide +kernel
theorem dX11_cuts_77 : decode cX11_cuts 77 = .ok (.iadd, 1) := by decide +kernel
theorem dX11_cuts_78 : decode cX11_cuts 78 = .ok (.iastore, 1) := by decide +kernel
theorem dX11_cuts_79 : decode cX11_cuts 79 = .ok (.aload_n 0, 1) := by decide +kernel
theorem dX11_cuts_80 : decode cX11_cuts 80 = .ok (.iconst 5, 1) := by decide +kernel
theorem dX11_cuts_81 : decode cX11_cuts 81 = .ok (.iload_n 1, 1) := by decide +kernel
theorem dX11_cuts_82 : decode cX11_cuts 82 = .ok (.iload_n 3, 1) := by decide +kernel
theorem dX11_cuts_83 : decode cX11_cuts 83 = .ok (.invokevirtual 82, 3) := by decide +kernel
theorem dX11_cuts_86 : decode cX11_cuts 86 = .ok (.aload_n 0, 1) := by decide +kernel
theorem dX11_cuts_87 : decode cX11_cuts 87 = .ok (.iconst 1, 1) := by decide +kernel
theorem dX11_cuts_88 : decode cX11_cuts 88 = .ok (.invokevirtual 173, 3) := by decide +kernel
theorem dX11_cuts_91 : decode cX11_cuts 91 = .ok (.ireturn, 1) := by decide +kernel
theorem dX11_cut_0 : decode cX11_cut 0 = .ok (.aload_n 0, 1) := by decide +kernel
theorem dX11_cut_1 : decode cX11_cut 1 = .ok (.iconst 0, 1) := by decide +kernel
theorem dX11_cut_2 : decode cX11_cut 2 = .ok (.putfield 50, 3) := by decide +kernel
theorem dX11_cut_5 : decode cX11_cut 5 = .ok (.aload_n 0, 1) := by decide +kernel
theorem dX11_cut_6 : decode cX11_cut 6 = .ok (.iload_n 1, 1) := by decide +kernel
theorem dX11_cut_7 : decode cX11_cut 7 = .ok (.invokevirtual 185, 3) := by decide +kernel
theorem dX11_cut_10 : decode cX11_cut 10 = .ok (.ifCond .eq 7, 3) := by decide +kernel
theorem dX11_cut_13 : decode cX11_cut 13 = .ok (.iconst 0, 1) := by decide +kernel
theorem dX11_cut_14 : decode cX11_cut 14 = .ok (.goto 8, 3) := by decide +kernel
theorem dX11_cut_17 : decode cX11_cut 17 = .ok (.aload_n 0, 1) := by decide +kernel
theorem dX11_cut_18 : decode cX11_cut 18 = .ok (.iload_n 1, 1) := by decide +kernel
theorem dX11_cut_19 : decode cX11_cut 19 = .ok (.invokevirtual 234, 3) := by decide +kernel
theorem dX11_cut_22 : decode cX11_cut 22 = .ok (.ireturn, 1) := by decide +kernel
theorem dX11_steers_0 : decode cX11_steers 0 = .ok (.aload_n 0, 1) := by decide +kernel
theorem dX11_steers_1 : decode cX11_steers 1 = .ok (.getfield 7, 3) := by decide +kernel
theorem dX11_steers_4 : decode cX11_steers 4 = .ok (.iconst 0, 1) := by decide +kernel
theorem dX11_steers_5 : decode cX11_steers 5 = .ok (.iaload, 1) := by decide +kernel
theorem dX11_steers_6 : decode cX11_steers 6 = .ok (.ifCond .ne 9, 3) := by decide +kernel
theorem dX11_steers_9 : decode cX11_steers 9 = .ok (.aload_n 0, 1) := by decide +kernel
theorem dX11_steers_10 : decode cX11_steers 10 = .ok (.iconst 1, 1) := by decide +kernel
theorem dX11_steers_11 : decode cX11_steers 11 = .ok (.invokevirtual 219, 3) := by decide +kernel
theorem dX11_steers_14 : decode cX11_steers 14 = .ok (.ireturn, 1) := by decide +kernel
theorem dX11_steers_15 : decode cX11_steers 15 = .ok (.aload_n 0, 1) := by decide +kernel
theorem dX11_steers_16 : decode cX11_steers 16 = .ok (.iconst 1, 1) := by decide +kernel
theorem dX11_steers_17 : decode cX11_steers 17 = .ok (.invokevirtual 173, 3) := by decide +kernel
theorem dX11_steers_20 : decode cX11_steers 20 = .ok (.ifCond .ne 10, 3) := by decide +kernel
theorem dX11_steers_23 : decode cX11_steers 23 = .ok (.aload_n 0, 1) := by decide +kernel
theorem dX11_steers_24 : decode cX11_steers 24 = .ok (.bipush 8, 2) := by decide +kernel
theorem dX11_steers_26 : decode cX11_steers 26 = .ok (.invokevirtual 219, 3) := by decide +kernel
theorem dX11_steers_29 : decode cX11_steers 29 = .ok (.ireturn, 1) := by decide +kernel
theorem dX11_steers_30 : decode cX11_steers 30 = .ok (.aload_n 0, 1) := by decide +kernel
theorem dX11_steers_31 : decode cX11_steers 31 = .ok (.invokevirtual 222, 3) := by decide +kernel
theorem dX11_steers_34 : decode cX11_steers 34 = .ok (.aload_n 0, 1) := by decide +kernel
theorem dX11_steers_35 : decode cX11_steers 35 = .ok (.getfield 7, 3) := by decide +kernel
theorem dX11_steers_38 : decode cX11_steers 38 = .ok (.iconst 5, 1) := by decide +kernel
theorem dX11_steers_39 : decode cX11_steers 39 = .ok (.iaload, 1) := by decide +kernel
theorem dX11_steers_40 : decode cX11_steers 40 = .ok (.istore_n 2, 1) := by decide +kernel
theorem dX11_steers_41 : decode cX11_steers 41 = .ok (.aload_n 0, 1) := by decide +kernel
theorem dX11_steers_42 : decode cX11_steers 42 = .ok (.getfield 7, 3) := by decide +kernel
theorem dX11_steers_45 : decode cX11_steers 45 = .ok (.iconst 5, 1) := by decide +kernel
theorem dX11_steers_46 : decode cX11_steers 46 = .ok (.iload_n 1, 1) := by decide +kernel
theorem dX11_steers_47 : decode cX11_steers 47 = .ok (.iastore, 1) := by decide +kernel
theorem dX11_steers_48 : decode cX11_steers 48 = .ok (.iload_n 2, 1) := by decide +kernel
theorem dX11_steers_49 : decode cX11_steers 49 = .ok (.bipush 9, 2) := by decide +kernel
theorem dX11_steers_51 : decode cX11_steers 51 = .ok (.iadd, 1) := by decide +kernel
theorem dX11_steers_52 : decode cX11_steers 52 = .ok (.ireturn, 1) := by decide +kernel
theorem dX11_steer_0 : decode cX11_steer 0 = .ok (.aload_n 0, 1) := by decide +kernel
theorem dX11_steer_1 : decode cX11_steer 1 = .ok (.iconst 0, 1) := by decide +kernel
theorem dX11_steer_2 : decode cX11_steer 2 = .ok (.putfield 50, 3) := by decide +kernel
theorem dX11_steer_5 : decode cX11_steer 5 = .ok (.aload_n 0, 1) := by decide +kernel
theorem dX11_steer_6 : decode cX11_steer 6 = .ok (.iload_n 1, 1) := by decide +kernel
theorem dX11_steer_7 : decode cX11_steer 7 = .ok (.bipush (-9), 2) := by decide +kernel
theorem dX11_steer_9 : decode cX11_steer 9 = .ok (.bipush 9, 2) := by decide +kernel
theorem dX11_steer_11 : decode cX11_steer 11 = .ok (.invokestatic 57, 3) := by decide +kernel
theorem dX11_steer_14 : decode cX11_steer 14 = .ok (.ifCond .ne 7, 3) := by decide +kernel
theorem dX11_steer_17 : decode cX11_steer 17 = .ok (.iconst 1, 1) := by decide +kernel
theorem dX11_steer_18 : decode cX11_steer 18 = .ok (.goto 4, 3) := by decide +kernel
theorem dX11_steer_21 : decode cX11_steer 21 = .ok (.iconst 0, 1) := by decide +kernel
theorem dX11_steer_22 : decode cX11_steer 22 = .ok (.iconst 1, 1) := by decide +kernel
theorem dX11_steer_23 : decode cX11_steer 23 = .ok (.invokevirtual 61, 3) := by decide +kernel
theorem dX11_steer_26 : decode cX11_steer 26 = .ok (.ifCond .eq 7, 3) := by decide +kernel
theorem dX11_steer_29 : decode cX11_steer 29 = .ok (.iconst 0, 1) := by decide +kernel
theorem dX11_steer_30 : decode cX11_steer 30 = .ok (.goto 8, 3) := by decide +kernel
theorem dX11_steer_33 : decode cX11_steer 33 = .ok (.aload_n 0, 1) := by decide +kernel
theorem dX11_steer_34 : decode cX11_steer 34 = .ok (.iload_n 1, 1) := by decide +kernel
theorem dX11_steer_35 : decode cX11_steer 35 = .ok (.invokevirtual 237, 3) := by decide +kernel
theorem dX11_steer_38 : decode cX11_steer 38 = .ok (.ireturn, 1) := by decide +kernel
theorem dX11_setTarget_0 : decode cX11_setTarget 0 = .ok (.aload_n 0, 1) := by decide +kernel
theorem dX11_setTarget_1 : decode cX11_setTarget 1 = .ok (.iconst 0, 1) := by decide +kernel
theorem dX11_setTarget_2 : decode cX11_setTarget 2 = .ok (.putfield 50, 3) := by decide +kernel
theorem dX11_setTarget_5 : decode cX11_setTarget 5 = .ok (.aload_n 0, 1) := by decide +kernel
theorem dX11_setTarget_6 : decode cX11_setTarget 6 = .ok (.iload_n 1, 1) := by decide +kernel
theorem dX11_setTarget_7 : decode cX11_setTarget 7 = .ok (.iconst 1, 1) := by decide +kernel
theorem dX11_setTarget_8 : decode cX11_setTarget 8 = .ok (.sipush 30000, 3) := by decide +kernel
theorem dX11_setTarget_11 : decode cX11_setTarget 11 = .ok (.invokestatic 57, 3) := by decide +kernel
theorem dX11_setTarget_14 : decode cX11_setTarget 14 = .ok (.ifCond .eq 14, 3) := by decide +kernel
theorem dX11_setTarget_17 : decode cX11_setTarget 17 = .ok (.iload_n 2, 1) := by decide +kernel
theorem dX11_setTarget_18 : decode cX11_setTarget 18 = .ok (.iconst 1, 1) := by decide +kernel
theorem dX11_setTarget_19 : decode cX11_setTarget 19 = .ok (.sipush 400, 3) := by decide +kernel
theorem dX11_setTarget_22 : decode cX11_setTarget 22 = .ok (.invokestatic 57, 3) := by decide +kernel
theorem dX11_setTarget_25 : decode cX11_setTarget 25 = .ok (.ifCond .ne 7, 3) := by decide +kernel
theorem dX11_setTarget_28 : decode cX11_setTarget 28 = .ok (.iconst 1, 1) := by decide +kernel
theorem dX11_setTarget_29 : decode cX11_setTarget 29 = .ok (.goto 4, 3) := by decide +kernel
theorem dX11_setTarget_32 : decode cX11_setTarget 32 = .ok (.iconst 0, 1) := by decide +kernel
theorem dX11_setTarget_33 : decode cX11_setTarget 33 = .ok (.iconst 1, 1) := by decide +kernel
theorem dX11_setTarget_34 : decode cX11_setTarget 34 = .ok (.invokevirtual 61, 3) := by decide +kernel
theorem dX11_setTarget_37 : decode cX11_setTarget 37 = .ok (.ifCond .eq 5, 3) := by decide +kernel
theorem dX11_setTarget_40 : decode cX11_setTarget 40 = .ok (.iconst 0, 1) := by decide +kernel
theorem dX11_setTarget_41 : decode cX11_setTarget 41 = .ok (.ireturn, 1) := by decide +kernel
theorem dX11_setTarget_42 : decode cX11_setTarget 42 = .ok (.iconst 0, 1) := by decide +kernel
theorem dX11_setTarget_43 : decode cX11_setTarget 43 = .ok (.istore_n 3, 1) := by decide +kernel
theorem dX11_setTarget_44 : decode cX11_setTarget 44 = .ok (.iload_n 3, 1) := by decide +kernel
theorem dX11_setTarget_45 : decode cX11_setTarget 45 = .ok (.aload_n 0, 1) := by decide +kernel
theorem dX11_setTarget_46 : decode cX11_setTarget 46 = .ok (.getfield 7, 3) := by decide +kernel
theorem dX11_setTarget_49 : decode cX11_setTarget 49 = .ok (.bipush 10, 2) := by decide +kernel
theorem dX11_setTarget_51 : decode cX11_setTarget 51 = .ok (.iaload, 1) := by decide +kernel
theorem dX11_setTarget_52 : decode cX11_setTarget 52 = .ok (.if_icmp .ge 24, 3) := by decide +kernel
theorem dX11_setTarget_55 : decode cX11_setTarget 55 = .ok (.aload_n 0, 1) := by decide +kernel
theorem dX11_setTarget_56 : decode cX11_setTarget 56 = .ok (.getfield 7, 3) := by decide +kernel
theorem dX11_setTarget_59 : decode cX11_setTarget 59 = .ok (.bipush 92, 2) := by decide +kernel
theorem dX11_setTarget_61 : decode cX11_setTarget 61 = .ok (.iconst 2, 1) := by decide +kernel
theorem dX11_setTarget_62 : decode cX11_setTarget 62 = .ok (.iload_n 3, 1) := by decide +kernel
theorem dX11_setTarget_63 : decode cX11_setTarget 63 = .ok (.imul, 1) := by decide +kernel
theorem dX11_setTarget_64 : decode cX11_setTarget 64 = .ok (.iadd, 1) := by decide +kernel
theorem dX11_setTarget_65 : decode cX11_setTarget 65 = .ok (.iaload, 1) := by decide +kernel
theorem dX11_setTarget_66 : decode cX11_setTarget 66 = .ok (.iload_n 1, 1) := by decide +kernel
theorem dX11_setTarget_67 : decode cX11_setTarget 67 = .ok (.if_icmp .eq 9, 3) := by decide +kernel
theorem dX11_setTarget_70 : decode cX11_setTarget 70 = .ok (.iinc 3 1, 3) := by decide +kernel
theorem dX11_setTarget_73 : decode cX11_setTarget 73 = .ok (.goto (-29), 3) := by decide +kernel
theorem dX11_setTarget_76 : decode cX11_setTarget 76 = .ok (.iload_n 3, 1) := by decide +kernel
theorem dX11_setTarget_77 : decode cX11_setTarget 77 = .ok (.bipush 8, 2) := by decide +kernel
theorem dX11_setTarget_79 : decode cX11_setTarget 79 = .ok (.if_icmp .ne 10, 3) := by decide +kernel
theorem dX11_setTarget_82 : decode cX11_setTarget 82 = .ok (.aload_n 0, 1) := by decide +kernel
theorem dX11_setTarget_83 : decode cX11_setTarget 83 = .ok (.bipush 9, 2) := by decide +kernel
theorem dX11_setTarget_85 : decode cX11_setTarget 85 = .ok (.invokevirtual 219, 3) := by decide +kernel
theorem dX11_setTarget_88 : decode cX11_setTarget 88 = .ok (.ireturn, 1) := by decide +kernel
theorem dX11_setTarget_89 : decode cX11_setTarget 89 = .ok (.aload_n 0, 1) := by decide +kernel
theorem dX11_setTarget_90 : decode cX11_setTarget 90 = .ok (.invokevirtual 222, 3) := by decide +kernel
theorem dX11_setTarget_93 : decode cX11_setTarget 93 = .ok (.aload_n 0, 1) := by decide +kernel
theorem dX11_setTarget_94 : decode cX11_setTarget 94 = .ok (.getfield 7, 3) := by decide +kernel
theorem dX11_setTarget_97 : decode cX11_setTarget 97 = .ok (.bipush 92, 2) := by decide +kernel
theorem dX11_setTarget_99 : decode cX11_setTarget 99 = .ok (.iconst 2, 1) := by decide +kernel
theorem dX11_setTarget_100 : decode cX11_setTarget 100 = .ok (.iload_n 3, 1) := by decide +kernel
theorem dX11_setTarget_101 : decode cX11_setTarget 101 = .ok (.imul, 1) := by decide +kernel
theorem dX11_setTarget_102 : decode cX11_setTarget 102 = .ok (.iadd, 1) := by decide +kernel
theorem dX11_setTarget_103 : decode cX11_setTarget 103 = .ok (.iload_n 1, 1) := by decide +kernel
theorem dX11_setTarget_104 : decode cX11_setTarget 104 = .ok (.iastore, 1) := by decide +kernel
theorem dX11_setTarget_105 : decode cX11_setTarget 105 = .ok (.aload_n 0, 1) := by decide +kernel
theorem dX11_setTarget_106 : decode cX11_setTarget 106 = .ok (.getfield 7, 3) := by decide +kernel
theorem dX11_setTarget_109 : decode cX11_setTarget 109 = .ok (.bipush 92, 2) := by decide +kernel
theorem dX11_setTarget_111 : decode cX11_setTarget 111 = .ok (.iconst 2, 1) := by decide +kernel
theorem dX11_setTarget_112 : decode cX11_setTarget 112 = .ok (.iload_n 3, 1) := by decide +kernel
theorem dX11_setTarget_113 : decode cX11_setTarget 113 = .ok (.imul, 1) := by decide +kernel
theorem dX11_setTarget_114 : decode cX11_setTarget 114 = .ok (.iadd, 1) := by decide +kernel
theorem dX11_setTarget_115 : decode cX11_setTarget 115 = .ok (.iconst 1, 1) := by decide +kernel
theorem dX11_setTarget_116 : decode cX11_setTarget 116 = .ok (.iadd, 1) := by decide +kernel
theorem dX11_setTarget_117 : decode cX11_setTarget 117 = .ok (.iload_n 2, 1) := by decide +kernel
theorem dX11_setTarget_118 : decode cX11_setTarget 118 = .ok (.iastore, 1) := by decide +kernel
theorem dX11_setTarget_119 : decode cX11_setTarget 119 = .ok (.aload_n 0, 1) := by decide +kernel
theorem dX11_setTarget_120 : decode cX11_setTarget 120 = .ok (.getfield 7, 3) := by decide +kernel
theorem dX11_setTarget_123 : decode cX11_setTarget 123 = .ok (.bipush 10, 2) := by decide +kernel
theorem dX11_setTarget_125 : decode cX11_setTarget 125 = .ok (.aload_n 0, 1) := by decide +kernel
theorem dX11_setTarget_126 : decode cX11_setTarget 126 = .ok (.getfield 7, 3) := by decide +kernel
theorem dX11_setTarget_129 : decode cX11_setTarget 129 = .ok (.bipush 10, 2) := by decide +kernel
theorem dX11_setTarget_131 : decode cX11_setTarget 131 = .ok (.iaload, 1) := by decide +kernel
theorem dX11_setTarget_132 : decode cX11_setTarget 132 = .ok (.iload_n 3, 1) := by decide +kernel
theorem dX11_setTarget_133 : decode cX11_setTarget 133 = .ok (.iconst 1, 1) := by decide +kernel
theorem dX11_setTarget_134 : decode cX11_setTarget 134 = .ok (.iadd, 1) := by decide +kernel
theorem dX11_setTarget_135 : decode cX11_setTarget 135 = .ok (.invokestatic 155, 3) := by decide +kernel
theorem dX11_setTarget_138 : decode cX11_setTarget 138 = .ok (.iastore, 1) := by decide +kernel
theorem dX11_setTarget_139 : decode cX11_setTarget 139 = .ok (.aload_n 0, 1) := by decide +kernel
theorem dX11_setTarget_140 : decode cX11_setTarget 140 = .ok (.getfield 7, 3) := by decide +kernel
theorem dX11_setTarget_143 : decode cX11_setTarget 143 = .ok (.bipush 10, 2) := by decide +kernel
theorem dX11_setTarget_145 : decode cX11_setTarget 145 = .ok (.iaload, 1) := by decide +kernel
theorem dX11_setTarget_146 : decode cX11_setTarget 146 = .ok (.ireturn, 1) := by decide +kernel
theorem dX11_jam_0 : decode cX11_jam 0 = .ok (.aload_n 0, 1) := by decide +kernel
theorem dX11_jam_1 : decode cX11_jam 1 = .ok (.iconst 0, 1) := by decide +kernel
theorem dX11_jam_2 : decode cX11_jam 2 = .ok (.putfield 50, 3) := by decide +kernel
theorem dX11_jam_5 : decode cX11_jam 5 = .ok (.aload_n 0, 1) := by decide +kernel
theorem dX11_jam_6 : decode cX11_jam 6 = .ok (.iload_n 1, 1) := by decide +kernel
theorem dX11_jam_7 : decode cX11_jam 7 = .ok (.invokevirtual 194, 3) := by decide +kernel
theorem dX11_jam_10 : decode cX11_jam 10 = .ok (.ifCond .eq 5, 3) := by decide +kernel
theorem dX11_jam_13 : decode cX11_jam 13 = .ok (.iconst 0, 1) := by decide +kernel
theorem dX11_jam_14 : decode cX11_jam 14 = .ok (.ireturn, 1) := by decide +kernel
theorem dX11_jam_15 : decode cX11_jam 15 = .ok (.aload_n 0, 1) := by decide +kernel
theorem dX11_jam_16 : decode cX11_jam 16 = .ok (.getfield 7, 3) := by decide +kernel
theorem dX11_jam_19 : decode cX11_jam 19 = .ok (.bipush 65, 2) := by decide +kernel
theorem dX11_jam_21 : decode cX11_jam 21 = .ok (.iload_n 1, 1) := by decide +kernel
theorem dX11_jam_22 : decode cX11_jam 22 = .ok (.iadd, 1) := by decide +kernel
theorem dX11_jam_23 : decode cX11_jam 23 = .ok (.iaload, 1) := by decide +kernel
theorem dX11_jam_24 : decode cX11_jam 24 = .ok (.ifCond .eq 9, 3) := by decide +kernel
theorem dX11_jam_27 : decode cX11_jam 27 = .ok (.aload_n 0, 1) := by decide +kernel
theorem dX11_jam_28 : decode cX11_jam 28 = .ok (.iconst 3, 1) := by decide +kernel
theorem dX11_jam_29 : decode cX11_jam 29 = .ok (.invokevirtual 219, 3) := by decide +kernel
theorem dX11_jam_32 : decode cX11_jam 32 = .ok (.ireturn, 1) := by decide +kernel
theorem dX11_jam_33 : decode cX11_jam 33 = .ok (.aload_n 0, 1) := by decide +kernel
theorem dX11_jam_34 : decode cX11_jam 34 = .ok (.invokevirtual 222, 3) := by decide +kernel
theorem dX11_jam_37 : decode cX11_jam 37 = .ok (.aload_n 0, 1) := by decide +kernel
theorem dX11_jam_38 : decode cX11_jam 38 = .ok (.getfield 7, 3) := by decide +kernel
theorem dX11_jam_41 : decode cX11_jam 41 = .ok (.bipush 83, 2) := by decide +kernel
theorem dX11_jam_43 : decode cX11_jam 43 = .ok (.iload_n 1, 1) := by decide +kernel
theorem dX11_jam_44 : decode cX11_jam 44 = .ok (.iadd, 1) := by decide +kernel
theorem dX11_jam_45 : decode cX11_jam 45 = .ok (.iload_n 2, 1) := by decide +kernel
theorem dX11_jam_46 : decode cX11_jam 46 = .ok (.ifCond .eq 7, 3) := by decide +kernel
theorem dX11_jam_49 : decode cX11_jam 49 = .ok (.iconst 1, 1) := by decide +kernel
theorem dX11_jam_50 : decode cX11_jam 50 = .ok (.goto 4, 3) := by decide +kernel
theorem dX11_jam_53 : decode cX11_jam 53 = .ok (.iconst 0, 1) := by decide +kernel
theorem dX11_jam_54 : decode cX11_jam 54 = .ok (.iastore, 1) := by decide +kernel
theorem dX11_jam_55 : decode cX11_jam 55 = .ok (.iconst 0, 1) := by decide +kernel
theorem dX11_jam_56 : decode cX11_jam 56 = .ok (.istore_n 3, 1) := by decide +kernel
theorem dX11_jam_57 : decode cX11_jam 57 = .ok (.iconst 0, 1) := by decide +kernel
theorem dX11_jam_58 : decode cX11_jam 58 = .ok (.istore 4, 2) := by decide +kernel
theorem dX11_jam_60 : decode cX11_jam 60 = .ok (.iload 4, 2) := by decide +kernel
theorem dX11_jam_62 : decode cX11_jam 62 = .ok (.aload_n 0, 1) := by decide +kernel
theorem dX11_jam_63 : decode cX11_jam 63 = .ok (.getfield 7, 3) := by decide +kernel
theorem dX11_jam_66 : decode cX11_jam 66 = .ok (.bipush 8, 2) := by decide +kernel
theorem dX11_jam_68 : decode cX11_jam 68 = .ok (.iaload, 1) := by decide +kernel
theorem dX11_jam_69 : decode cX11_jam 69 = .ok (.if_icmp .ge 39, 3) := by decide +kernel
theorem dX11_jam_72 : decode cX11_jam 72 = .ok (.iload_n 3, 1) := by decide +kernel
theorem dX11_jam_73 : decode cX11_jam 73 = .ok (.aload_n 0, 1) := by decide +kernel
theorem dX11_jam_74 : decode cX11_jam 74 = .ok (.getfield 7, 3) := by decide +kernel
theorem dX11_jam_77 : decode cX11_jam 77 = .ok (.bipush 65, 2) := by decide +kernel
theorem dX11_jam_79 : decode cX11_jam 79 = .ok (.iload 4, 2) := by decide +kernel
theorem dX11_jam_81 : decode cX11_jam 81 = .ok (.iadd, 1) := by decide +kernel
theorem dX11_jam_82 : decode cX11_jam 82 = .ok (.iaload, 1) := by decide +kernel
theorem dX11_jam_83 : decode cX11_jam 83 = .ok (.ifCond .ne 16, 3) := by decide +kernel
theorem dX11_jam_86 : decode cX11_jam 86 = .ok (.aload_n 0, 1) := by decide +kernel
theorem dX11_jam_87 : decode cX11_jam 87 = .ok (.getfield 7, 3) := by decide +kernel
theorem dX11_jam_90 : decode cX11_jam 90 = .ok (.bipush 83, 2) := by decide +kernel
theorem dX11_jam_92 : decode cX11_jam 92 = .ok (.iload 4, 2) := by decide +kernel
theorem dX11_jam_94 : decode cX11_jam 94 = .ok (.iadd, 1) := by decide +kernel
theorem dX11_jam_95 : decode cX11_jam 95 = .ok (.iaload, 1) := by decide +kernel
theorem dX11_jam_96 : decode cX11_jam 96 = .ok (.goto 4, 3) := by decide +kernel
theorem dX11_jam_99 : decode cX11_jam 99 = .ok (.iconst 0, 1) := by decide +kernel
theorem dX11_jam_100 : decode cX11_jam 100 = .ok (.iadd, 1) := by decide +kernel
theorem dX11_jam_101 : decode cX11_jam 101 = .ok (.istore_n 3, 1) := by decide +kernel
theorem dX11_jam_102 : decode cX11_jam 102 = .ok (.iinc 4 1, 3) := by decide +kernel
theorem dX11_jam_105 : decode cX11_jam 105 = .ok (.goto (-45), 3) := by decide +kernel
theorem dX11_jam_108 : decode cX11_jam 108 = .ok (.iload_n 3, 1) := by decide +kernel
theorem dX11_jam_109 : decode cX11_jam 109 = .ok (.ireturn, 1) := by decide +kernel
theorem dX11_bytesIn_0 : decode cX11_bytesIn 0 = .ok (.iconst 0, 1) := by decide +kernel
theorem dX11_bytesIn_1 : decode cX11_bytesIn 1 = .ok (.istore_n 1, 1) := by decide +kernel
theorem dX11_bytesIn_2 : decode cX11_bytesIn 2 = .ok (.bipush 24, 2) := by decide +kernel
theorem dX11_bytesIn_4 : decode cX11_bytesIn 4 = .ok (.istore_n 2, 1) := by decide +kernel
theorem dX11_bytesIn_5 : decode cX11_bytesIn 5 = .ok (.iload_n 2, 1) := by decide +kernel
theorem dX11_bytesIn_6 : decode cX11_bytesIn 6 = .ok (.ifCond .lt 27, 3) := by decide +kernel
theorem dX11_bytesIn_9 : decode cX11_bytesIn 9 = .ok (.iload_n 1, 1) := by decide +kernel
theorem dX11_bytesIn_10 : decode cX11_bytesIn 10 = .ok (.iload_n 0, 1) := by decide +kernel
theorem dX11_bytesIn_11 : decode cX11_bytesIn 11 = .ok (.iload_n 2, 1) := by decide +kernel
theorem dX11_bytesIn_12 : decode cX11_bytesIn 12 = .ok (.ishr, 1) := by decide +kernel
theorem dX11_bytesIn_13 : decode cX11_bytesIn 13 = .ok (.sipush 255, 3) := by decide +kernel
theorem dX11_bytesIn_16 : decode cX11_bytesIn 16 = .ok (.iand, 1) := by decide +kernel
theorem dX11_bytesIn_17 : decode cX11_bytesIn 17 = .ok (.ifCond .eq 7, 3) := by decide +kernel
theorem dX11_bytesIn_20 : decode cX11_bytesIn 20 = .ok (.iconst 1, 1) := by decide +kernel
theorem dX11_bytesIn_21 : decode cX11_bytesIn 21 = .ok (.goto 4, 3) := by decide +kernel
theorem dX11_bytesIn_24 : decode cX11_bytesIn 24 = .ok (.iconst 0, 1) := by decide +kernel
theorem dX11_bytesIn_25 : decode cX11_bytesIn 25 = .ok (.iadd, 1) := by decide +kernel
theorem dX11_bytesIn_26 : decode cX11_bytesIn 26 = .ok (.istore_n 1, 1) := by decide +kernel
theorem dX11_bytesIn_27 : decode cX11_bytesIn 27 = .ok (.iinc 2 (-8), 3) := by decide +kernel
theorem dX11_bytesIn_30 : decode cX11_bytesIn 30 = .ok (.goto (-25), 3) := by decide +kernel
theorem dX11_bytesIn_33 : decode cX11_bytesIn 33 = .ok (.iload_n 1, 1) := by decide +kernel
theorem dX11_bytesIn_34 : decode cX11_bytesIn 34 = .ok (.ireturn, 1) := by decide +kernel
theorem dX11_append_0 : decode cX11_append 0 = .ok (.aload_n 0, 1) := by decide +kernel
theorem dX11_append_1 : decode cX11_append 1 = .ok (.iconst 0, 1) := by decide +kernel
theorem dX11_append_2 : decode cX11_append 2 = .ok (.putfield 50, 3) := by decide +kernel
theorem dX11_append_5 : decode cX11_append 5 = .ok (.aload_n 0, 1) := by decide +kernel
theorem dX11_append_6 : decode cX11_append 6 = .ok (.aload_n 0, 1) := by decide +kernel
theorem dX11_append_7 : decode cX11_append 7 = .ok (.getfield 240, 3) := by decide +kernel
theorem dX11_append_10 : decode cX11_append 10 = .ok (.iload_n 1, 1) := by decide +kernel
theorem dX11_append_11 : decode cX11_append 11 = .ok (.invokestatic 243, 3) := by decide +kernel
theorem dX11_append_14 : decode cX11_append 14 = .ok (.iadd, 1) := by decide +kernel
theorem dX11_append_15 : decode cX11_append 15 = .ok (.iload_n 2, 1) := by decide +kernel
theorem dX11_append_16 : decode cX11_append 16 = .ok (.invokestatic 243, 3) := by decide +kernel
theorem dX11_append_19 : decode cX11_append 19 = .ok (.iadd, 1) := by decide +kernel
theorem dX11_append_20 : decode cX11_append 20 = .ok (.iload_n 3, 1) := by decide +kernel
theorem dX11_append_21 : decode cX11_append 21 = .ok (.invokestatic 243, 3) := by decide +kernel
theorem dX11_append_24 : decode cX11_append 24 = .ok (.iadd, 1) := by decide +kernel
theorem dX11_append_25 : decode cX11_append 25 = .ok (.iload 4, 2) := by decide +kernel
theorem dX11_append_27 : decode cX11_append 27 = .ok (.invokestatic 243, 3) := by decide +kernel
theorem dX11_append_30 : decode cX11_append 30 = .ok (.iadd, 1) := by decide +kernel
theorem dX11_append_31 : decode cX11_append 31 = .ok (.iload 5, 2) := by decide +kernel
theorem dX11_append_33 : decode cX11_append 33 = .ok (.invokestatic 243, 3) := by decide +kernel
theorem dX11_append_36 : decode cX11_append 36 = .ok (.iadd, 1) := by decide +kernel
theorem dX11_append_37 : decode cX11_append 37 = .ok (.sipush 600, 3) := by decide +kernel
theorem dX11_append_40 : decode cX11_append 40 = .ok (.if_icmp .le 7, 3) := by decide +kernel
theorem dX11_append_43 : decode cX11_append 43 = .ok (.iconst 1, 1) := by decide +kernel
theorem dX11_append_44 : decode cX11_append 44 = .ok (.goto 4, 3) := by decide +kernel
theorem dX11_append_47 : decode cX11_append 47 = .ok (.iconst 0, 1) := by decide +kernel
theorem dX11_append_48 : decode cX11_append 48 = .ok (.iconst 1, 1) := by decide +kernel
theorem dX11_append_49 : decode cX11_append 49 = .ok (.invokevirtual 61, 3) := by decide +kernel
theorem dX11_append_52 : decode cX11_append 52 = .ok (.ifCond .eq 5, 3) := by decide +kernel
theorem dX11_append_55 : decode cX11_append 55 = .ok (.iconst 0, 1) := by decide +kernel
theorem dX11_append_56 : decode cX11_append 56 = .ok (.ireturn, 1) := by decide +kernel
theorem dX11_append_57 : decode cX11_append 57 = .ok (.aload_n 0, 1) := by decide +kernel
theorem dX11_append_58 : decode cX11_append 58 = .ok (.iload_n 1, 1) := by decide +kernel
theorem dX11_append_59 : decode cX11_append 59 = .ok (.invokevirtual 246, 3) := by decide +kernel
theorem dX11_append_62 : decode cX11_append 62 = .ok (.aload_n 0, 1) := by decide +kernel
theorem dX11_append_63 : decode cX11_append 63 = .ok (.iload_n 2, 1) := by decide +kernel
theorem dX11_append_64 : decode cX11_append 64 = .ok (.invokevirtual 246, 3) := by decide +kernel
theorem dX11_append_67 : decode cX11_append 67 = .ok (.aload_n 0, 1) := by decide +kernel
theorem dX11_append_68 : decode cX11_append 68 = .ok (.iload_n 3, 1) := by decide +kernel
theorem dX11_append_69 : decode cX11_append 69 = .ok (.invokevirtual 246, 3) := by decide +kernel
theorem dX11_append_72 : decode cX11_append 72 = .ok (.aload_n 0, 1) := by decide +kernel
theorem dX11_append_73 : decode cX11_append 73 = .ok (.iload 4, 2) := by decide +kernel
theorem dX11_append_75 : decode cX11_append 75 = .ok (.invokevirtual 246, 3) := by decide +kernel
theorem dX11_append_78 : decode cX11_append 78 = .ok (.aload_n 0, 1) := by decide +kernel
theorem dX11_append_79 : decode cX11_append 79 = .ok (.iload 5, 2) := by decide +kernel
theorem dX11_append_81 : decode cX11_append 81 = .ok (.invokevirtual 246, 3) := by decide +kernel
theorem dX11_append_84 : decode cX11_append 84 = .ok (.aload_n 0, 1) := by decide +kernel
theorem dX11_append_85 : decode cX11_append 85 = .ok (.getfield 240, 3) := by decide +kernel
theorem dX11_append_88 : decode cX11_append 88 = .ok (.ireturn, 1) := by decide +kernel
theorem dX11_puts_0 : decode cX11_puts 0 = .ok (.bipush 24, 2) := by decide +kernel
theorem dX11_puts_2 : decode cX11_puts 2 = .ok (.istore_n 2, 1) := by decide +kernel
theorem dX11_puts_3 : decode cX11_puts 3 = .ok (.iload_n 2, 1) := by decide +kernel
theorem dX11_puts_4 : decode cX11_puts 4 = .ok (.ifCond .lt 42, 3) := by decide +kernel
theorem dX11_puts_7 : decode cX11_puts 7 = .ok (.iload_n 1, 1) := by decide +kernel
theorem dX11_puts_8 : decode cX11_puts 8 = .ok (.iload_n 2, 1) := by decide +kernel
theorem dX11_puts_9 : decode cX11_puts 9 = .ok (.ishr, 1) := by decide +kernel
theorem dX11_puts_10 : decode cX11_puts 10 = .ok (.sipush 255, 3) := by decide +kernel
theorem dX11_puts_13 : decode cX11_puts 13 = .ok (.iand, 1) := by decide +kernel
theorem dX11_puts_14 : decode cX11_puts 14 = .ok (.ifCond .eq 26, 3) := by decide +kernel
theorem dX11_puts_17 : decode cX11_puts 17 = .ok (.aload_n 0, 1) := by decide +kernel
theorem dX11_puts_18 : decode cX11_puts 18 = .ok (.getfield 32, 3) := by decide +kernel
theorem dX11_puts_21 : decode cX11_puts 21 = .ok (.aload_n 0, 1) := by decide +kernel
theorem dX11_puts_22 : decode cX11_puts 22 = .ok (.getfield 240, 3) := by decide +kernel
theorem dX11_puts_25 : decode cX11_puts 25 = .ok (.iload_n 1, 1) := by decide +kernel
theorem dX11_puts_26 : decode cX11_puts 26 = .ok (.iload_n 2, 1) := by decide +kernel
theorem dX11_puts_27 : decode cX11_puts 27 = .ok (.ishr, 1) := by decide +kernel
theorem dX11_puts_28 : decode cX11_puts 28 = .ok (.i2b, 1) := by decide +kernel
theorem dX11_puts_29 : decode cX11_puts 29 = .ok (.bastore, 1) := by decide +kernel
theorem dX11_puts_30 : decode cX11_puts 30 = .ok (.aload_n 0, 1) := by decide +kernel
theorem dX11_puts_31 : decode cX11_puts 31 = .ok (.dup, 1) := by decide +kernel
theorem dX11_puts_32 : decode cX11_puts 32 = .ok (.getfield 240, 3) := by decide +kernel
theorem dX11_puts_35 : decode cX11_puts 35 = .ok (.iconst 1, 1) := by decide +kernel
theorem dX11_puts_36 : decode cX11_puts 36 = .ok (.iadd, 1) := by decide +kernel
theorem dX11_puts_37 : decode cX11_puts 37 = .ok (.putfield 240, 3) := by decide +kernel
theorem dX11_puts_40 : decode cX11_puts 40 = .ok (.iinc 2 (-8), 3) := by decide +kernel
theorem dX11_puts_43 : decode cX11_puts 43 = .ok (.goto (-40), 3) := by decide +kernel
theorem dX11_puts_46 : decode cX11_puts 46 = .ok (.return_, 1) := by decide +kernel
theorem dX11_byteAt_0 : decode cX11_byteAt 0 = .ok (.iload_n 1, 1) := by decide +kernel
theorem dX11_byteAt_1 : decode cX11_byteAt 1 = .ok (.aload_n 0, 1) := by decide +kernel
theorem dX11_byteAt_2 : decode cX11_byteAt 2 = .ok (.getfield 240, 3) := by decide +kernel
theorem dX11_byteAt_5 : decode cX11_byteAt 5 = .ok (.if_icmp .ge 16, 3) := by decide +kernel
theorem dX11_byteAt_8 : decode cX11_byteAt 8 = .ok (.aload_n 0, 1) := by decide +kernel
theorem dX11_byteAt_9 : decode cX11_byteAt 9 = .ok (.getfield 32, 3) := by decide +kernel
theorem dX11_byteAt_12 : decode cX11_byteAt 12 = .ok (.iload_n 1, 1) := by decide +kernel
theorem dX11_byteAt_13 : decode cX11_byteAt 13 = .ok (.baload, 1) := by decide +kernel
theorem dX11_byteAt_14 : decode cX11_byteAt 14 = .ok (.sipush 255, 3) := by decide +kernel
theorem dX11_byteAt_17 : decode cX11_byteAt 17 = .ok (.iand, 1) := by decide +kernel
theorem dX11_byteAt_18 : decode cX11_byteAt 18 = .ok (.goto 4, 3) := by decide +kernel
theorem dX11_byteAt_21 : decode cX11_byteAt 21 = .ok (.iconst (-1), 1) := by decide +kernel
theorem dX11_byteAt_22 : decode cX11_byteAt 22 = .ok (.ireturn, 1) := by decide +kernel
theorem dX11_isLetter_0 : decode cX11_isLetter 0 = .ok (.iload_n 0, 1) := by decide +kernel
theorem dX11_isLetter_1 : decode cX11_isLetter 1 = .ok (.bipush 97, 2) := by decide +kernel
theorem dX11_isLetter_3 : decode cX11_isLetter 3 = .ok (.bipush 122, 2) := by decide +kernel
theorem dX11_isLetter_5 : decode cX11_isLetter 5 = .ok (.invokestatic 57, 3) := by decide +kernel
theorem dX11_isLetter_8 : decode cX11_isLetter 8 = .ok (.ireturn, 1) := by decide +kernel
theorem dX11_isDigit_0 : decode cX11_isDigit 0 = .ok (.iload_n 0, 1) := by decide +kernel
theorem dX11_isDigit_1 : decode cX11_isDigit 1 = .ok (.bipush 48, 2) := by decide +kernel
theorem dX11_isDigit_3 : decode cX11_isDigit 3 = .ok (.bipush 57, 2) := by decide +kernel
theorem dX11_isDigit_5 : decode cX11_isDigit 5 = .ok (.invokestatic 57, 3) := by decide +kernel
theorem dX11_isDigit_8 : decode cX11_isDigit 8 = .ok (.ireturn, 1) := by decide +kernel
theorem dX11_advance_0 : decode cX11_advance 0 = .ok (.aload_n 0, 1) := by decide +kernel
theorem dX11_advance_1 : decode cX11_advance 1 = .ok (.aload_n 0, 1) := by decide +kernel
theorem dX11_advance_2 : decode cX11_advance 2 = .ok (.getfield 249, 3) := by decide +kernel
theorem dX11_advance_5 : decode cX11_advance 5 = .ok (.invokevirtual 252, 3) := by decide +kernel
theorem dX11_advance_8 : decode cX11_advance 8 = .ok (.bipush 32, 2) := by decide +kernel
theorem dX11_advance_10 : decode cX11_advance 10 = .ok (.if_icmp .eq 16, 3) := by decide +kernel
theorem dX11_advance_13 : decode cX11_advance 13 = .ok (.aload_n 0, 1) := by decide +kernel
theorem dX11_advance_14 : decode cX11_advance 14 = .ok (.aload_n 0, 1) := by decide +kernel
theorem dX11_advance_15 : decode cX11_advance 15 = .ok (.getfield 249, 3) := by decide +kernel
theorem dX11_advance_18 : decode cX11_advance 18 = .ok (.invokevirtual 252, 3) := by decide +kernel
theorem dX11_advance_21 : decode cX11_advance 21 = .ok (.bipush 10, 2) := by decide +kernel
theorem dX11_advance_23 : decode cX11_advance 23 = .ok (.if_icmp .ne 16, 3) := by decide +kernel
theorem dX11_advance_26 : decode cX11_advance 26 = .ok (.aload_n 0, 1) := by decide +kernel
theorem dX11_advance_27 : decode cX11_advance 27 = .ok (.dup, 1) := by decide +kernel
theorem dX11_advance_28 : decode cX11_advance 28 = .ok (.getfield 249, 3) := by decide +kernel
theorem dX11_advance_31 : decode cX11_advance 31 = .ok (.iconst 1, 1) := by decide +kernel
theorem dX11_advance_32 : decode cX11_advance 32 = .ok (.iadd, 1) := by decide +kernel
theorem dX11_advance_33 : decode cX11_advance 33 = .ok (.putfield 249, 3) := by decide +kernel
theorem dX11_advance_36 : decode cX11_advance 36 = .ok (.goto (-36), 3) := by decide +kernel
theorem dX11_advance_39 : decode cX11_advance 39 = .ok (.aload_n 0, 1) := by decide +kernel
theorem dX11_advance_40 : decode cX11_advance 40 = .ok (.aload_n 0, 1) := by decide +kernel
theorem dX11_advance_41 : decode cX11_advance 41 = .ok (.getfield 249, 3) := by decide +kernel
theorem dX11_advance_44 : decode cX11_advance 44 = .ok (.putfield 255, 3) := by decide +kernel
theorem dX11_advance_47 : decode cX11_advance 47 = .ok (.aload_n 0, 1) := by decide +kernel
theorem dX11_advance_48 : decode cX11_advance 48 = .ok (.iconst 0, 1) := by decide +kernel
theorem dX11_advance_49 : decode cX11_advance 49 = .ok (.putfield 258, 3) := by decide +kernel
theorem dX11_advance_52 : decode cX11_advance 52 = .ok (.aload_n 0, 1) := by decide +kernel
theorem dX11_advance_53 : decode cX11_advance 53 = .ok (.aload_n 0, 1) := by decide +kernel
theorem dX11_advance_54 : decode cX11_advance 54 = .ok (.getfield 249, 3) := by decide +kernel
theorem dX11_advance_57 : decode cX11_advance 57 = .ok (.invokevirtual 252, 3) := by decide +kernel
theorem dX11_advance_60 : decode cX11_advance 60 = .ok (.istore_n 1, 1) := by decide +kernel
theorem dX11_advance_61 : decode cX11_advance 61 = .ok (.iload_n 1, 1) := by decide +kernel
theorem dX11_advance_62 : decode cX11_advance 62 = .ok (.iconst (-1), 1) := by decide +kernel
theorem dX11_advance_63 : decode cX11_advance 63 = .ok (.if_icmp .ne 11, 3) := by decide +kernel
theorem dX11_advance_66 : decode cX11_advance 66 = .ok (.aload_n 0, 1) := by decide +kernel
theorem dX11_advance_67 : decode cX11_advance 67 = .ok (.iconst 0, 1) := by decide +kernel
theorem dX11_advance_68 : decode cX11_advance 68 = .ok (.putfield 261, 3) := by decide +kernel
theorem dX11_advance_71 : decode cX11_advance 71 = .ok (.goto 156, 3) := by decide +kernel
theorem dX11_advance_74 : decode cX11_advance 74 = .ok (.iload_n 1, 1) := by decide +kernel
theorem dX11_advance_75 : decode cX11_advance 75 = .ok (.invokestatic 264, 3) := by decide +kernel
theorem dX11_advance_78 : decode cX11_advance 78 = .ok (.ifCond .eq 35, 3) := by decide +kernel
theorem dX11_advance_81 : decode cX11_advance 81 = .ok (.aload_n 0, 1) := by decide +kernel
theorem dX11_advance_82 : decode cX11_advance 82 = .ok (.iconst 1, 1) := by decide +kernel
theorem dX11_advance_83 : decode cX11_advance 83 = .ok (.putfield 261, 3) := by decide +kernel
theorem dX11_advance_86 : decode cX11_advance 86 = .ok (.aload_n 0, 1) := by decide +kernel
theorem dX11_advance_87 : decode cX11_advance 87 = .ok (.aload_n 0, 1) := by decide +kernel
theorem dX11_advance_88 : decode cX11_advance 88 = .ok (.getfield 249, 3) := by decide +kernel
theorem dX11_advance_91 : decode cX11_advance 91 = .ok (.invokevirtual 252, 3) := by decide +kernel
theorem dX11_advance_94 : decode cX11_advance 94 = .ok (.invokestatic 264, 3) := by decide +kernel
theorem dX11_advance_97 : decode cX11_advance 97 = .ok (.ifCond .eq 130, 3) := by decide +kernel
theorem dX11_advance_100 : decode cX11_advance 100 = .ok (.aload_n 0, 1) := by decide +kernel
theorem dX11_advance_101 : decode cX11_advance 101 = .ok (.dup, 1) := by decide +kernel
theorem dX11_advance_102 : decode cX11_advance 102 = .ok (.getfield 249, 3) := by decide +kernel
theorem dX11_advance_105 : decode cX11_advance 105 = .ok (.iconst 1, 1) := by decide +kernel
theorem dX11_advance_106 : decode cX11_advance 106 = .ok (.iadd, 1) := by decide +kernel
theorem dX11_advance_107 : decode cX11_advance 107 = .ok (.putfield 249, 3) := by decide +kernel
theorem dX11_advance_110 : decode cX11_advance 110 = .ok (.goto (-24), 3) := by decide +kernel
theorem dX11_advance_113 : decode cX11_advance 113 = .ok (.iload_n 1, 1) := by decide +kernel
theorem dX11_advance_114 : decode cX11_advance 114 = .ok (.invokestatic 267, 3) := by decide +kernel
theorem dX11_advance_117 : decode cX11_advance 117 = .ok (.ifCond .eq 75, 3) := by decide +kernel
theorem dX11_advance_120 : decode cX11_advance 120 = .ok (.aload_n 0, 1) := by decide +kernel
theorem dX11_advance_121 : decode cX11_advance 121 = .ok (.iconst 2, 1) := by decide +kernel
theorem dX11_advance_122 : decode cX11_advance 122 = .ok (.putfield 261, 3) := by decide +kernel
theorem dX11_advance_125 : decode cX11_advance 125 = .ok (.aload_n 0, 1) := by decide +kernel
theorem dX11_advance_126 : decode cX11_advance 126 = .ok (.aload_n 0, 1) := by decide +kernel
theorem dX11_advance_127 : decode cX11_advance 127 = .ok (.getfield 249, 3) := by decide +kernel
theorem dX11_advance_130 : decode cX11_advance 130 = .ok (.invokevirtual 252, 3) := by decide +kernel
theorem dX11_advance_133 : decode cX11_advance 133 = .ok (.invokestatic 267, 3) := by decide +kernel
theorem dX11_advance_136 : decode cX11_advance 136 = .ok (.ifCond .eq 91, 3) := by decide +kernel
theorem dX11_advance_139 : decode cX11_advance 139 = .ok (.aload_n 0, 1) := by decide +kernel
theorem dX11_advance_140 : decode cX11_advance 140 = .ok (.aload_n 0, 1) := by decide +kernel
theorem dX11_advance_141 : decode cX11_advance 141 = .ok (.getfield 258, 3) := by decide +kernel
theorem dX11_advance_144 : decode cX11_advance 144 = .ok (.ldc_w 270, 3) := by decide +kernel
theorem dX11_advance_147 : decode cX11_advance 147 = .ok (.if_icmp .le 10, 3) := by decide +kernel
theorem dX11_advance_150 : decode cX11_advance 150 = .ok (.aload_n 0, 1) := by decide +kernel
theorem dX11_advance_151 : decode cX11_advance 151 = .ok (.getfield 258, 3) := by decide +kernel
theorem dX11_advance_154 : decode cX11_advance 154 = .ok (.goto 22, 3) := by decide +kernel
theorem dX11_advance_157 : decode cX11_advance 157 = .ok (.bipush 10, 2) := by decide +kernel
theorem dX11_advance_159 : decode cX11_advance 159 = .ok (.aload_n 0, 1) := by decide +kernel
theorem dX11_advance_160 : decode cX11_advance 160 = .ok (.getfield 258, 3) := by decide +kernel
theorem dX11_advance_163 : decode cX11_advance 163 = .ok (.imul, 1) := by decide +kernel
theorem dX11_advance_164 : decode cX11_advance 164 = .ok (.aload_n 0, 1) := by decide +kernel
theorem dX11_advance_165 : decode cX11_advance 165 = .ok (.aload_n 0, 1) := by decide +kernel
theorem dX11_advance_166 : decode cX11_advance 166 = .ok (.getfield 249, 3) := by decide +kernel
theorem dX11_advance_169 : decode cX11_advance 169 = .ok (.invokevirtual 252, 3) := by decide +kernel
theorem dX11_advance_172 : decode cX11_advance 172 = .ok (.iadd, 1) := by decide +kernel
theorem dX11_advance_173 : decode cX11_advance 173 = .ok (.bipush 48, 2) := by decide +kernel
theorem dX11_advance_175 : decode cX11_advance 175 = .ok (.isub, 1) := by decide +kernel
theorem dX11_advance_176 : decode cX11_advance 176 = .ok (.putfield 258, 3) := by decide +kernel
theorem dX11_advance_179 : decode cX11_advance 179 = .ok (.aload_n 0, 1) := by decide +kernel
theorem dX11_advance_180 : decode cX11_advance 180 = .ok (.dup, 1) := by decide +kernel
theorem dX11_advance_181 : decode cX11_advance 181 = .ok (.getfield 249, 3) := by decide +kernel
theorem dX11_advance_184 : decode cX11_advance 184 = .ok (.iconst 1, 1) := by decide +kernel
theorem dX11_advance_185 : decode cX11_advance 185 = .ok (.iadd, 1) := by decide +kernel
theorem dX11_advance_186 : decode cX11_advance 186 = .ok (.putfield 249, 3) := by decide +kernel
theorem dX11_advance_189 : decode cX11_advance 189 = .ok (.goto (-64), 3) := by decide +kernel
theorem dX11_advance_192 : decode cX11_advance 192 = .ok (.aload_n 0, 1) := by decide +kernel
theorem dX11_advance_193 : decode cX11_advance 193 = .ok (.dup, 1) := by decide +kernel
theorem dX11_advance_194 : decode cX11_advance 194 = .ok (.getfield 249, 3) := by decide +kernel
theorem dX11_advance_197 : decode cX11_advance 197 = .ok (.iconst 1, 1) := by decide +kernel
theorem dX11_advance_198 : decode cX11_advance 198 = .ok (.iadd, 1) := by decide +kernel
theorem dX11_advance_199 : decode cX11_advance 199 = .ok (.putfield 249, 3) := by decide +kernel
theorem dX11_advance_202 : decode cX11_advance 202 = .ok (.aload_n 0, 1) := by decide +kernel
theorem dX11_advance_203 : decode cX11_advance 203 = .ok (.iload_n 1, 1) := by decide +kernel
theorem dX11_advance_204 : decode cX11_advance 204 = .ok (.bipush 59, 2) := by decide +kernel
theorem dX11_advance_206 : decode cX11_advance 206 = .ok (.if_icmp .ne 7, 3) := by decide +kernel
theorem dX11_advance_209 : decode cX11_advance 209 = .ok (.iconst 4, 1) := by decide +kernel
theorem dX11_advance_210 : decode cX11_advance 210 = .ok (.goto 14, 3) := by decide +kernel
theorem dX11_advance_213 : decode cX11_advance 213 = .ok (.iload_n 1, 1) := by decide +kernel
theorem dX11_advance_214 : decode cX11_advance 214 = .ok (.bipush 45, 2) := by decide +kernel
theorem dX11_advance_216 : decode cX11_advance 216 = .ok (.if_icmp .ne 7, 3) := by decide +kernel
theorem dX11_advance_219 : decode cX11_advance 219 = .ok (.iconst 3, 1) := by decide +kernel
theorem dX11_advance_220 : decode cX11_advance 220 = .ok (.goto 4, 3) := by decide +kernel
theorem dX11_advance_223 : decode cX11_advance 223 = .ok (.iconst 5, 1) := by decide +kernel
theorem dX11_advance_224 : decode cX11_advance 224 = .ok (.putfield 261, 3) := by decide +kernel
theorem dX11_advance_227 : decode cX11_advance 227 = .ok (.return_, 1) := by decide +kernel
theorem dX11_isWord_0 : decode cX11_isWord 0 = .ok (.aload_n 0, 1) := by decide +kernel
theorem dX11_isWord_1 : decode cX11_isWord 1 = .ok (.getfield 261, 3) := by decide +kernel
theorem dX11_isWord_4 : decode cX11_isWord 4 = .ok (.iconst 1, 1) := by decide +kernel
theorem dX11_isWord_5 : decode cX11_isWord 5 = .ok (.if_icmp .ne 23, 3) := by decide +kernel
theorem dX11_isWord_8 : decode cX11_isWord 8 = .ok (.aload_n 0, 1) := by decide +kernel
theorem dX11_isWord_9 : decode cX11_isWord 9 = .ok (.getfield 249, 3) := by decide +kernel
theorem dX11_isWord_12 : decode cX11_isWord 12 = .ok (.aload_n 0, 1) := by decide +kernel
theorem dX11_isWord_13 : decode cX11_isWord 13 = .ok (.getfield 255, 3) := by decide +kernel
theorem dX11_isWord_16 : decode cX11_isWord 16 = .ok (.isub, 1) := by decide +kernel
theorem dX11_isWord_17 : decode cX11_isWord 17 = .ok (.aload_n 1, 1) := by decide +kernel
theorem dX11_isWord_18 : decode cX11_isWord 18 = .ok (.invokevirtual 271, 3) := by decide +kernel
theorem dX11_isWord_21 : decode cX11_isWord 21 = .ok (.if_icmp .ne 7, 3) := by decide +kernel
theorem dX11_isWord_24 : decode cX11_isWord 24 = .ok (.iconst 1, 1) := by decide +kernel
theorem dX11_isWord_25 : decode cX11_isWord 25 = .ok (.goto 4, 3) := by decide +kernel
theorem dX11_isWord_28 : decode cX11_isWord 28 = .ok (.iconst 0, 1) := by decide +kernel
theorem dX11_isWord_29 : decode cX11_isWord 29 = .ok (.istore_n 2, 1) := by decide +kernel
theorem dX11_isWord_30 : decode cX11_isWord 30 = .ok (.iconst 0, 1) := by decide +kernel
theorem dX11_isWord_31 : decode cX11_isWord 31 = .ok (.istore_n 3, 1) := by decide +kernel
theorem dX11_isWord_32 : decode cX11_isWord 32 = .ok (.iload_n 3, 1) := by decide +kernel
theorem dX11_isWord_33 : decode cX11_isWord 33 = .ok (.aload_n 1, 1) := by decide +kernel
theorem dX11_isWord_34 : decode cX11_isWord 34 = .ok (.invokevirtual 271, 3) := by decide +kernel
theorem dX11_isWord_37 : decode cX11_isWord 37 = .ok (.if_icmp .ge 38, 3) := by decide +kernel
theorem dX11_isWord_40 : decode cX11_isWord 40 = .ok (.iload_n 2, 1) := by decide +kernel
theorem dX11_isWord_41 : decode cX11_isWord 41 = .ok (.ifCond .eq 34, 3) := by decide +kernel
theorem dX11_isWord_44 : decode cX11_isWord 44 = .ok (.aload_n 0, 1) := by decide +kernel
theorem dX11_isWord_45 : decode cX11_isWord 45 = .ok (.getfield 32, 3) := by decide +kernel
theorem dX11_isWord_48 : decode cX11_isWord 48 = .ok (.aload_n 0, 1) := by decide +kernel
theorem dX11_isWord_49 : decode cX11_isWord 49 = .ok (.getfield 255, 3) := by decide +kernel
theorem dX11_isWord_52 : decode cX11_isWord 52 = .ok (.iload_n 3, 1) := by decide +kernel
theorem dX11_isWord_53 : decode cX11_isWord 53 = .ok (.iadd, 1) := by decide +kernel
theorem dX11_isWord_54 : decode cX11_isWord 54 = .ok (.baload, 1) := by decide +kernel
theorem dX11_isWord_55 : decode cX11_isWord 55 = .ok (.aload_n 1, 1) := by decide +kernel
theorem dX11_isWord_56 : decode cX11_isWord 56 = .ok (.iload_n 3, 1) := by decide +kernel
theorem dX11_isWord_57 : decode cX11_isWord 57 = .ok (.invokevirtual 275, 3) := by decide +kernel
theorem dX11_isWord_60 : decode cX11_isWord 60 = .ok (.if_icmp .ne 7, 3) := by decide +kernel
theorem dX11_isWord_63 : decode cX11_isWord 63 = .ok (.iconst 1, 1) := by decide +kernel
theorem dX11_isWord_64 : decode cX11_isWord 64 = .ok (.goto 4, 3) := by decide +kernel
theorem dX11_isWord_67 : decode cX11_isWord 67 = .ok (.iconst 0, 1) := by decide +kernel
theorem dX11_isWord_68 : decode cX11_isWord 68 = .ok (.istore_n 2, 1) := by decide +kernel
theorem dX11_isWord_69 : decode cX11_isWord 69 = .ok (.iinc 3 1, 3) := by decide +kernel
theorem dX11_isWord_72 : decode cX11_isWord 72 = .ok (.goto (-40), 3) := by decide +kernel
theorem dX11_isWord_75 : decode cX11_isWord 75 = .ok (.iload_n 2, 1) := by decide +kernel
theorem dX11_isWord_76 : decode cX11_isWord 76 = .ok (.ireturn, 1) := by decide +kernel
theorem dX11_fails_0 : decode cX11_fails 0 = .ok (.aload_n 0, 1) := by decide +kernel
theorem dX11_fails_1 : decode cX11_fails 1 = .ok (.getfield 279, 3) := by decide +kernel
theorem dX11_fails_4 : decode cX11_fails 4 = .ok (.ifCond .ne 16, 3) := by decide +kernel
theorem dX11_fails_7 : decode cX11_fails 7 = .ok (.aload_n 0, 1) := by decide +kernel
theorem dX11_fails_8 : decode cX11_fails 8 = .ok (.iload_n 1, 1) := by decide +kernel
theorem dX11_fails_9 : decode cX11_fails 9 = .ok (.putfield 279, 3) := by decide +kernel
theorem dX11_fails_12 : decode cX11_fails 12 = .ok (.aload_n 0, 1) := by decide +kernel
theorem dX11_fails_13 : decode cX11_fails 13 = .ok (.aload_n 0, 1) := by decide +kernel
theorem dX11_fails_14 : decode cX11_fails 14 = .ok (.getfield 255, 3) := by decide +kernel
theorem dX11_fails_17 : decode cX11_fails 17 = .ok (.putfield 36, 3) := by decide +kernel
theorem dX11_fails_20 : decode cX11_fails 20 = .ok (.iconst 0, 1) := by decide +kernel
theorem dX11_fails_21 : decode cX11_fails 21 = .ok (.ireturn, 1) := by decide +kernel
theorem dX11_goesOn_0 : decode cX11_goesOn 0 = .ok (.iload_n 2, 1) := by decide +kernel
theorem dX11_goesOn_1 : decode cX11_goesOn 1 = .ok (.ifCond .ne 9, 3) := by decide +kernel
theorem dX11_goesOn_4 : decode cX11_goesOn 4 = .ok (.aload_n 0, 1) := by decide +kernel
theorem dX11_goesOn_5 : decode cX11_goesOn 5 = .ok (.iload_n 1, 1) := by decide +kernel
theorem dX11_goesOn_6 : decode cX11_goesOn 6 = .ok (.invokevirtual 282, 3) := by decide +kernel
theorem dX11_goesOn_9 : decode cX11_goesOn 9 = .ok (.ireturn, 1) := by decide +kernel
theorem dX11_goesOn_10 : decode cX11_goesOn 10 = .ok (.aload_n 0, 1) := by decide +kernel
theorem dX11_goesOn_11 : decode cX11_goesOn 11 = .ok (.invokevirtual 285, 3) := by decide +kernel
theorem dX11_goesOn_14 : decode cX11_goesOn 14 = .ok (.iconst 1, 1) := by decide +kernel
theorem dX11_goesOn_15 : decode cX11_goesOn 15 = .ok (.ireturn, 1) := by decide +kernel
theorem dX11_stands_0 : decode cX11_stands 0 = .ok (.aload_n 0, 1) := by decide +kernel
theorem dX11_stands_1 : decode cX11_stands 1 = .ok (.getfield 261, 3) := by decide +kernel
theorem dX11_stands_4 : decode cX11_stands 4 = .ok (.iconst 2, 1) := by decide +kernel
theorem dX11_stands_5 : decode cX11_stands 5 = .ok (.if_icmp .eq 9, 3) := by decide +kernel
theorem dX11_stands_8 : decode cX11_stands 8 = .ok (.aload_n 0, 1) := by decide +kernel
theorem dX11_stands_9 : decode cX11_stands 9 = .ok (.iconst 1, 1) := by decide +kernel
theorem dX11_stands_10 : decode cX11_stands 10 = .ok (.invokevirtual 282, 3) := by decide +kernel
theorem dX11_stands_13 : decode cX11_stands 13 = .ok (.ireturn, 1) := by decide +kernel
theorem dX11_stands_14 : decode cX11_stands 14 = .ok (.aload_n 0, 1) := by decide +kernel
theorem dX11_stands_15 : decode cX11_stands 15 = .ok (.aload_n 0, 1) := by decide +kernel
theorem dX11_stands_16 : decode cX11_stands 16 = .ok (.getfield 258, 3) := by decide +kernel
theorem dX11_stands_19 : decode cX11_stands 19 = .ok (.putfield 288, 3) := by decide +kernel
theorem dX11_stands_22 : decode cX11_stands 22 = .ok (.aload_n 0, 1) := by decide +kernel
theorem dX11_stands_23 : decode cX11_stands 23 = .ok (.getfield 258, 3) := by decide +kernel
theorem dX11_stands_26 : decode cX11_stands 26 = .ok (.iload_n 1, 1) := by decide +kernel
theorem dX11_stands_27 : decode cX11_stands 27 = .ok (.iload_n 2, 1) := by decide +kernel
theorem dX11_stands_28 : decode cX11_stands 28 = .ok (.invokestatic 57, 3) := by decide +kernel
theorem dX11_stands_31 : decode cX11_stands 31 = .ok (.ifCond .ne 11, 3) := by decide +kernel
theorem dX11_stands_34 : decode cX11_stands 34 = .ok (.aload_n 0, 1) := by decide +kernel
theorem dX11_stands_35 : decode cX11_stands 35 = .ok (.iconst 2, 1) := by decide +kernel
theorem dX11_stands_36 : decode cX11_stands 36 = .ok (.invokevirtual 282, 3) := by decide +kernel
theorem dX11_stands_39 : decode cX11_stands 39 = .ok (.ifCond .eq 7, 3) := by decide +kernel
theorem dX11_stands_42 : decode cX11_stands 42 = .ok (.iconst 1, 1) := by decide +kernel
theorem dX11_stands_43 : decode cX11_stands 43 = .ok (.goto 4, 3) := by decide +kernel
theorem dX11_stands_46 : decode cX11_stands 46 = .ok (.iconst 0, 1) := by decide +kernel
theorem dX11_stands_47 : decode cX11_stands 47 = .ok (.ireturn, 1) := by decide +kernel
theorem dX11_takes_0 : decode cX11_takes 0 = .ok (.aload_n 0, 1) := by decide +kernel
theorem dX11_takes_1 : decode cX11_takes 1 = .ok (.iload_n 1, 1) := by decide +kernel
theorem dX11_takes_2 : decode cX11_takes 2 = .ok (.iload_n 2, 1) := by decide +kernel
theorem dX11_takes_3 : decode cX11_takes 3 = .ok (.invokevirtual 291, 3) := by decide +kernel
theorem dX11_takes_6 : decode cX11_takes 6 = .ok (.ifCond .eq 16, 3) := by decide +kernel
theorem dX11_takes_9 : decode cX11_takes 9 = .ok (.aload_n 0, 1) := by decide +kernel
theorem dX11_takes_10 : decode cX11_takes 10 = .ok (.iconst 1, 1) := by decide +kernel
theorem dX11_takes_11 : decode cX11_takes 11 = .ok (.iconst 1, 1) := by decide +kernel
theorem dX11_takes_12 : decode cX11_takes 12 = .ok (.invokevirtual 294, 3) := by decide +kernel
theorem dX11_takes_15 : decode cX11_takes 15 = .ok (.ifCond .eq 7, 3) := by decide +kernel
theorem dX11_takes_18 : decode cX11_takes 18 = .ok (.iconst 1, 1) := by decide +kernel
theorem dX11_takes_19 : decode cX11_takes 19 = .ok (.goto 4, 3) := by decide +kernel
theorem dX11_takes_22 : decode cX11_takes 22 = .ok (.iconst 0, 1) := by decide +kernel
theorem dX11_takes_23 : decode cX11_takes 23 = .ok (.ireturn, 1) := by decide +kernel
theorem dX11_standsSigned_0 : decode cX11_standsSigned 0 = .ok (.aload_n 0, 1) := by decide +kernel
theorem dX11_standsSigned_1 : decode cX11_standsSigned 1 = .ok (.getfield 261, 3) := by decide +kernel
theorem dX11_standsSigned_4 : decode cX11_standsSigned 4 = .ok (.iconst 3, 1) := by decide +kernel
theorem dX11_standsSigned_5 : decode cX11_standsSigned 5 = .ok (.if_icmp .ne 7, 3) := by decide +kernel
theorem dX11_standsSigned_8 : decode cX11_standsSigned 8 = .ok (.iconst 1, 1) := by decide +kernel
theorem dX11_standsSigned_9 : decode cX11_standsSigned 9 = .ok (.goto 4, 3) := by decide +kernel
theorem dX11_standsSigned_12 : decode cX11_standsSigned 12 = .ok (.iconst 0, 1) := by decide +kernel
theorem dX11_standsSigned_13 : decode cX11_standsSigned 13 = .ok (.istore_n 2, 1) := by decide +kernel
theorem dX11_standsSigned_14 : decode cX11_standsSigned 14 = .ok (.iload_n 2, 1) := by decide +kernel
theorem dX11_standsSigned_15 : decode cX11_standsSigned 15 = .ok (.ifCond .eq 7, 3) := by decide +kernel
theorem dX11_standsSigned_18 : decode cX11_standsSigned 18 = .ok (.aload_n 0, 1) := by decide +kernel
theorem dX11_standsSigned_19 : decode cX11_standsSigned 19 = .ok (.invokevirtual 285, 3) := by decide +kernel
theorem dX11_standsSigned_22 : decode cX11_standsSigned 22 = .ok (.aload_n 0, 1) := by decide +kernel
theorem dX11_standsSigned_23 : decode cX11_standsSigned 23 = .ok (.iconst 0, 1) := by decide +kernel
theorem dX11_standsSigned_24 : decode cX11_standsSigned 24 = .ok (.iload_n 1, 1) := by decide +kernel
theorem dX11_standsSigned_25 : decode cX11_standsSigned 25 = .ok (.invokevirtual 291, 3) := by decide +kernel
theorem dX11_standsSigned_28 : decode cX11_standsSigned 28 = .ok (.ifCond .ne 5, 3) := by decide +kernel
theorem dX11_standsSigned_31 : decode cX11_standsSigned 31 = .ok (.iconst 0, 1) := by decide +kernel
theorem dX11_standsSigned_32 : decode cX11_standsSigned 32 = .ok (.ireturn, 1) := by decide +kernel
theorem dX11_standsSigned_33 : decode cX11_standsSigned 33 = .ok (.aload_n 0, 1) := by decide +kernel
theorem dX11_standsSigned_34 : decode cX11_standsSigned 34 = .ok (.iload_n 2, 1) := by decide +kernel
theorem dX11_standsSigned_35 : decode cX11_standsSigned 35 = .ok (.ifCond .eq 11, 3) := by decide +kernel
theorem dX11_standsSigned_38 : decode cX11_standsSigned 38 = .ok (.aload_n 0, 1) := by decide +kernel
theorem dX11_standsSigned_39 : decode cX11_standsSigned 39 = .ok (.getfield 288, 3) := by decide +kernel
theorem dX11_standsSigned_42 : decode cX11_standsSigned 42 = .ok (.ineg, 1) := by decide +kernel
theorem dX11_standsSigned_43 : decode cX11_standsSigned 43 = .ok (.goto 7, 3) := by decide +kernel
theorem dX11_standsSigned_46 : decode cX11_standsSigned 46 = .ok (.aload_n 0, 1) := by decide +kernel
theorem dX11_standsSigned_47 : decode cX11_standsSigned 47 = .ok (.getfield 288, 3) := by decide +kernel
theorem dX11_standsSigned_50 : decode cX11_standsSigned 50 = .ok (.putfield 288, 3) := by decide +kernel
theorem dX11_standsSigned_53 : decode cX11_standsSigned 53 = .ok (.iconst 1, 1) := by decide +kernel
theorem dX11_standsSigned_54 : decode cX11_standsSigned 54 = .ok (.ireturn, 1) := by decide +kernel
theorem dX11_takesSigned_0 : decode cX11_takesSigned 0 = .ok (.aload_n 0, 1) := by decide +kernel
theorem dX11_takesSigned_1 : decode cX11_takesSigned 1 = .ok (.iload_n 1, 1) := by decide +kernel
theorem dX11_takesSigned_2 : decode cX11_takesSigned 2 = .ok (.invokevirtual 298, 3) := by decide +kernel
theorem dX11_takesSigned_5 : decode cX11_takesSigned 5 = .ok (.ifCond .eq 16, 3) := by decide +kernel
theorem dX11_takesSigned_8 : decode cX11_takesSigned 8 = .ok (.aload_n 0, 1) := by decide +kernel
theorem dX11_takesSigned_9 : decode cX11_takesSigned 9 = .ok (.iconst 1, 1) := by decide +kernel
theorem dX11_takesSigned_10 : decode cX11_takesSigned 10 = .ok (.iconst 1, 1) := by decide +kernel
theorem dX11_takesSigned_11 : decode cX11_takesSigned 11 = .ok (.invokevirtual 294, 3) := by decide +kernel
theorem dX11_takesSigned_14 : decode cX11_takesSigned 14 = .ok (.ifCond .eq 7, 3) := by decide +kernel
theorem dX11_takesSigned_17 : decode cX11_takesSigned 17 = .ok (.iconst 1, 1) := by decide +kernel
theorem dX11_takesSigned_18 : decode cX11_takesSigned 18 = .ok (.goto 4, 3) := by decide +kernel
theorem dX11_takesSigned_21 : decode cX11_takesSigned 21 = .ok (.iconst 0, 1) := by decide +kernel
theorem dX11_takesSigned_22 : decode cX11_takesSigned 22 = .ok (.ireturn, 1) := by decide +kernel
theorem dX11_takesWord_0 : decode cX11_takesWord 0 = .ok (.aload_n 0, 1) := by decide +kernel
theorem dX11_takesWord_1 : decode cX11_takesWord 1 = .ok (.iconst 1, 1) := by decide +kernel
theorem dX11_takesWord_2 : decode cX11_takesWord 2 = .ok (.aload_n 0, 1) := by decide +kernel
theorem dX11_takesWord_3 : decode cX11_takesWord 3 = .ok (.aload_n 1, 1) := by decide +kernel
theorem dX11_takesWord_4 : decode cX11_takesWord 4 = .ok (.invokevirtual 301, 3) := by decide +kernel
theorem dX11_takesWord_7 : decode cX11_takesWord 7 = .ok (.invokevirtual 294, 3) := by decide +kernel
theorem dX11_takesWord_10 : decode cX11_takesWord 10 = .ok (.ireturn, 1) := by decide +kernel
theorem dX11_stop_0 : decode cX11_stop 0 = .ok (.aload_n 0, 1) := by decide +kernel
theorem dX11_stop_1 : decode cX11_stop 1 = .ok (.iconst 1, 1) := by decide +kernel
theorem dX11_stop_2 : decode cX11_stop 2 = .ok (.aload_n 0, 1) := by decide +kernel
theorem dX11_stop_3 : decode cX11_stop 3 = .ok (.getfield 261, 3) := by decide +kernel
theorem dX11_stop_6 : decode cX11_stop 6 = .ok (.iconst 4, 1) := by decide +kernel
theorem dX11_stop_7 : decode cX11_stop 7 = .ok (.if_icmp .ne 7, 3) := by decide +kernel
theorem dX11_stop_10 : decode cX11_stop 10 = .ok (.iconst 1, 1) := by decide +kernel
theorem dX11_stop_11 : decode cX11_stop 11 = .ok (.goto 4, 3) := by decide +kernel
theorem dX11_stop_14 : decode cX11_stop 14 = .ok (.iconst 0, 1) := by decide +kernel
theorem dX11_stop_15 : decode cX11_stop 15 = .ok (.invokevirtual 294, 3) := by decide +kernel
theorem dX11_stop_18 : decode cX11_stop 18 = .ok (.ireturn, 1) := by decide +kernel
theorem dX11_begins_0 : decode cX11_begins 0 = .ok (.aload_n 0, 1) := by decide +kernel
theorem dX11_begins_1 : decode cX11_begins 1 = .ok (.iconst 0, 1) := by decide +kernel
theorem dX11_begins_2 : decode cX11_begins 2 = .ok (.putfield 249, 3) := by decide +kernel
theorem dX11_begins_5 : decode cX11_begins 5 = .ok (.aload_n 0, 1) := by decide +kernel
theorem dX11_begins_6 : decode cX11_begins 6 = .ok (.iconst 0, 1) := by decide +kernel
theorem dX11_begins_7 : decode cX11_begins 7 = .ok (.putfield 279, 3) := by decide +kernel
theorem dX11_begins_10 : decode cX11_begins 10 = .ok (.aload_n 0, 1) := by decide +kernel
theorem dX11_begins_11 : decode cX11_begins 11 = .ok (.iconst (-1), 1) := by decide +kernel
theorem dX11_begins_12 : decode cX11_begins 12 = .ok (.putfield 36, 3) := by decide +kernel
theorem dX11_begins_15 : decode cX11_begins 15 = .ok (.aload_n 0, 1) := by decide +kernel
theorem dX11_begins_16 : decode cX11_begins 16 = .ok (.invokevirtual 285, 3) := by decide +kernel
theorem dX11_begins_19 : decode cX11_begins 19 = .ok (.return_, 1) := by decide +kernel
theorem dX11_errorCode_0 : decode cX11_errorCode 0 = .ok (.aload_n 0, 1) := by decide +kernel
theorem dX11_errorCode_1 : decode cX11_errorCode 1 = .ok (.iconst 0, 1) := by decide +kernel
theorem dX11_errorCode_2 : decode cX11_errorCode 2 = .ok (.putfield 50, 3) := by decide +kernel
theorem dX11_errorCode_5 : decode cX11_errorCode 5 = .ok (.aload_n 0, 1) := by decide +kernel
theorem dX11_errorCode_6 : decode cX11_errorCode 6 = .ok (.getfield 279, 3) := by decide +kernel
theorem dX11_errorCode_9 : decode cX11_errorCode 9 = .ok (.ireturn, 1) := by decide +kernel
theorem dX11_errorPosition_0 : decode cX11_errorPosition 0 = .ok (.aload_n 0, 1) := by decide +kernel
theorem dX11_errorPosition_1 : decode cX11_errorPosition 1 = .ok (.iconst 0, 1) := by decide +kernel
theorem dX11_errorPosition_2 : decode cX11_errorPosition 2 = .ok (.putfield 50, 3) := by decide +kernel
theorem dX11_errorPosition_5 : decode cX11_errorPosition 5 = .ok (.aload_n 0, 1) := by decide +kernel
theorem dX11_errorPosition_6 : decode cX11_errorPosition 6 = .ok (.getfield 36, 3) := by decide +kernel
theorem dX11_errorPosition_9 : decode cX11_errorPosition 9 = .ok (.ireturn, 1) := by decide +kernel
theorem dX11_takesInto_0 : decode cX11_takesInto 0 = .ok (.aload_n 0, 1) := by decide +kernel
theorem dX11_takesInto_1 : decode cX11_takesInto 1 = .ok (.iload_n 2, 1) := by decide +kernel
theorem dX11_takesInto_2 : decode cX11_takesInto 2 = .ok (.iload_n 3, 1) := by decide +kernel
theorem dX11_takesInto_3 : decode cX11_takesInto 3 = .ok (.invokevirtual 305, 3) := by decide +kernel
theorem dX11_takesInto_6 : decode cX11_takesInto 6 = .ok (.ifCond .ne 5, 3) := by decide +kernel
theorem dX11_takesInto_9 : decode cX11_takesInto 9 = .ok (.iconst 0, 1) := by decide +kernel
theorem dX11_takesInto_10 : decode cX11_takesInto 10 = .ok (.ireturn, 1) := by decide +kernel
theorem dX11_takesInto_11 : decode cX11_takesInto 11 = .ok (.aload_n 0, 1) := by decide +kernel
theorem dX11_takesInto_12 : decode cX11_takesInto 12 = .ok (.getfield 13, 3) := by decide +kernel
theorem dX11_takesInto_15 : decode cX11_takesInto 15 = .ok (.iload_n 1, 1) := by decide +kernel
theorem dX11_takesInto_16 : decode cX11_takesInto 16 = .ok (.aload_n 0, 1) := by decide +kernel
theorem dX11_takesInto_17 : decode cX11_takesInto 17 = .ok (.getfield 288, 3) := by decide +kernel
theorem dX11_takesInto_20 : decode cX11_takesInto 20 = .ok (.iastore, 1) := by decide +kernel
theorem dX11_takesInto_21 : decode cX11_takesInto 21 = .ok (.iconst 1, 1) := by decide +kernel
theorem dX11_takesInto_22 : decode cX11_takesInto 22 = .ok (.ireturn, 1) := by decide +kernel
theorem dX11_readChute_0 : decode cX11_readChute 0 = .ok (.aload_n 0, 1) := by decide +kernel
theorem dX11_readChute_1 : decode cX11_readChute 1 = .ok (.bipush 20, 2) := by decide +kernel
theorem dX11_readChute_3 : decode cX11_readChute 3 = .ok (.iload_n 1, 1) := by decide +kernel
theorem dX11_readChute_4 : decode cX11_readChute 4 = .ok (.iadd, 1) := by decide +kernel
theorem dX11_readChute_5 : decode cX11_readChute 5 = .ok (.iconst 1, 1) := by decide +kernel
theorem dX11_readChute_6 : decode cX11_readChute 6 = .ok (.bipush 99, 2) := by decide +kernel
theorem dX11_readChute_8 : decode cX11_readChute 8 = .ok (.invokevirtual 308, 3) := by decide +kernel
theorem dX11_readChute_11 : decode cX11_readChute 11 = .ok (.ifCond .eq 57, 3) := by decide +kernel
theorem dX11_readChute_14 : decode cX11_readChute 14 = .ok (.aload_n 0, 1) := by decide +kernel
theorem dX11_readChute_15 : decode cX11_readChute 15 = .ok (.bipush 29, 2) := by decide +kernel
theorem dX11_readChute_17 : decode cX11_readChute 17 = .ok (.iload_n 1, 1) := by decide +kernel
theorem dX11_readChute_18 : decode cX11_readChute 18 = .ok (.iadd, 1) := by decide +kernel
theorem dX11_readChute_19 : decode cX11_readChute 19 = .ok (.iconst 1, 1) := by decide +kernel
theorem dX11_readChute_20 : decode cX11_readChute 20 = .ok (.bipush 12, 2) := by decide +kernel
theorem dX11_readChute_22 : decode cX11_readChute 22 = .ok (.invokevirtual 308, 3) := by decide +kernel
theorem dX11_readChute_25 : decode cX11_readChute 25 = .ok (.ifCond .eq 43, 3) := by decide +kernel
theorem dX11_readChute_28 : decode cX11_readChute 28 = .ok (.aload_n 0, 1) := by decide +kernel
theorem dX11_readChute_29 : decode cX11_readChute 29 = .ok (.bipush 38, 2) := by decide +kernel
theorem dX11_readChute_31 : decode cX11_readChute 31 = .ok (.iload_n 1, 1) := by decide +kernel
theorem dX11_readChute_32 : decode cX11_readChute 32 = .ok (.iadd, 1) := by decide +kernel
theorem dX11_readChute_33 : decode cX11_readChute 33 = .ok (.iconst 1, 1) := by decide +kernel
theorem dX11_readChute_34 : decode cX11_readChute 34 = .ok (.sipush 9999, 3) := by decide +kernel
theorem dX11_readChute_37 : decode cX11_readChute 37 = .ok (.invokevirtual 308, 3) := by decide +kernel
theorem dX11_readChute_40 : decode cX11_readChute 40 = .ok (.ifCond .eq 28, 3) := by decide +kernel
theorem dX11_readChute_43 : decode cX11_readChute 43 = .ok (.aload_n 0, 1) := by decide +kernel
theorem dX11_readChute_44 : decode cX11_readChute 44 = .ok (.ldc_w 311, 3) := by decide +kernel
theorem dX11_readChute_47 : decode cX11_readChute 47 = .ok (.invokevirtual 313, 3) := by decide +kernel
theorem dX11_readChute_50 : decode cX11_readChute 50 = .ok (.ifCond .eq 18, 3) := by decide +kernel
theorem dX11_readChute_53 : decode cX11_readChute 53 = .ok (.aload_n 0, 1) := by decide +kernel
theorem dX11_readChute_54 : decode cX11_readChute 54 = .ok (.bipush 47, 2) := by decide +kernel
theorem dX11_readChute_56 : decode cX11_readChute 56 = .ok (.iload_n 1, 1) := by decide +kernel
theorem dX11_readChute_57 : decode cX11_readChute 57 = .ok (.iadd, 1) := by decide +kernel
theorem dX11_readChute_58 : decode cX11_readChute 58 = .ok (.iconst 1, 1) := by decide +kernel
theorem dX11_readChute_59 : decode cX11_readChute 59 = .ok (.sipush 30000, 3) := by decide +kernel
theorem dX11_readChute_62 : decode cX11_readChute 62 = .ok (.invokevirtual 308, 3) := by decide +kernel
theorem dX11_readChute_65 : decode cX11_readChute 65 = .ok (.ifCond .ne 5, 3) := by decide +kernel
theorem dX11_readChute_68 : decode cX11_readChute 68 = .ok (.iconst 0, 1) := by decide +kernel
theorem dX11_readChute_69 : decode cX11_readChute 69 = .ok (.ireturn, 1) := by decide +kernel
theorem dX11_readChute_70 : decode cX11_readChute 70 = .ok (.aload_n 0, 1) := by decide +kernel
theorem dX11_readChute_71 : decode cX11_readChute 71 = .ok (.getfield 13, 3) := by decide +kernel
theorem dX11_readChute_74 : decode cX11_readChute 74 = .ok (.bipush 74, 2) := by decide +kernel
theorem dX11_readChute_76 : decode cX11_readChute 76 = .ok (.iload_n 1, 1) := by decide +kernel
theorem dX11_readChute_77 : decode cX11_readChute 77 = .ok (.iadd, 1) := by decide +kernel
theorem dX11_readChute_78 : decode cX11_readChute 78 = .ok (.iconst 1, 1) := by decide +kernel
theorem dX11_readChute_79 : decode cX11_readChute 79 = .ok (.aload_n 0, 1) := by decide +kernel
theorem dX11_readChute_80 : decode cX11_readChute 80 = .ok (.getfield 13, 3) := by decide +kernel
theorem dX11_readChute_83 : decode cX11_readChute 83 = .ok (.bipush 29, 2) := by decide +kernel
theorem dX11_readChute_85 : decode cX11_readChute 85 = .ok (.iload_n 1, 1) := by decide +kernel
theorem dX11_readChute_86 : decode cX11_readChute 86 = .ok (.iadd, 1) := by decide +kernel
theorem dX11_readChute_87 : decode cX11_readChute 87 = .ok (.iaload, 1) := by decide +kernel
theorem dX11_readChute_88 : decode cX11_readChute 88 = .ok (.ishl, 1) := by decide +kernel
theorem dX11_readChute_89 : decode cX11_readChute 89 = .ok (.iconst 1, 1) := by decide +kernel
theorem dX11_readChute_90 : decode cX11_readChute 90 = .ok (.isub, 1) := by decide +kernel
theorem dX11_readChute_91 : decode cX11_readChute 91 = .ok (.iastore, 1) := by decide +kernel
theorem dX11_readChute_92 : decode cX11_readChute 92 = .ok (.iconst 1, 1) := by decide +kernel
theorem dX11_readChute_93 : decode cX11_readChute 93 = .ok (.ireturn, 1) := by decide +kernel
theorem dX11_readLayer_0 : decode cX11_readLayer 0 = .ok (.aload_n 0, 1) := by decide +kernel
theorem dX11_readLayer_1 : decode cX11_readLayer 1 = .ok (.getfield 13, 3) := by decide +kernel
theorem dX11_readLayer_4 : decode cX11_readLayer 4 = .ok (.bipush 8, 2) := by decide +kernel
theorem dX11_readLayer_6 : decode cX11_readLayer 6 = .ok (.iaload, 1) := by decide +kernel
theorem dX11_readLayer_7 : decode cX11_readLayer 7 = .ok (.istore_n 1, 1) := by decide +kernel
theorem dX11_readLayer_8 : decode cX11_readLayer 8 = .ok (.aload_n 0, 1) := by decide +kernel
theorem dX11_readLayer_9 : decode cX11_readLayer 9 = .ok (.iconst 4, 1) := by decide +kernel
theorem dX11_readLayer_10 : decode cX11_readLayer 10 = .ok (.iload_n 1, 1) := by decide +kernel
theorem dX11_readLayer_11 : decode cX11_readLayer 11 = .ok (.bipush 8, 2) := by decide +kernel
theorem dX11_readLayer_13 : decode cX11_readLayer 13 = .ok (.if_icmp .ge 7, 3) := by decide +kernel
theorem dX11_readLayer_16 : decode cX11_readLayer 16 = .ok (.iconst 1, 1) := by decide +kernel
theorem dX11_readLayer_17 : decode cX11_readLayer 17 = .ok (.goto 4, 3) := by decide +kernel
theorem dX11_readLayer_20 : decode cX11_readLayer 20 = .ok (.iconst 0, 1) := by decide +kernel
theorem dX11_readLayer_21 : decode cX11_readLayer 21 = .ok (.invokevirtual 294, 3) := by decide +kernel
theorem dX11_readLayer_24 : decode cX11_readLayer 24 = .ok (.ifCond .eq 36, 3) := by decide +kernel
theorem dX11_readLayer_27 : decode cX11_readLayer 27 = .ok (.aload_n 0, 1) := by decide +kernel
theorem dX11_readLayer_28 : decode cX11_readLayer 28 = .ok (.iload_n 1, 1) := by decide +kernel
theorem dX11_readLayer_29 : decode cX11_readLayer 29 = .ok (.invokevirtual 316, 3) := by decide +kernel
theorem dX11_readLayer_32 : decode cX11_readLayer 32 = .ok (.ifCond .eq 28, 3) := by decide +kernel
theorem dX11_readLayer_35 : decode cX11_readLayer 35 = .ok (.aload_n 0, 1) := by decide +kernel
theorem dX11_readLayer_36 : decode cX11_readLayer 36 = .ok (.ldc_w 319, 3) := by decide +kernel
theorem dX11_readLayer_39 : decode cX11_readLayer 39 = .ok (.invokevirtual 313, 3) := by decide +kernel
theorem dX11_readLayer_42 : decode cX11_readLayer 42 = .ok (.ifCond .eq 18, 3) := by decide +kernel
theorem dX11_readLayer_45 : decode cX11_readLayer 45 = .ok (.aload_n 0, 1) := by decide +kernel
theorem dX11_readLayer_46 : decode cX11_readLayer 46 = .ok (.bipush 56, 2) := by decide +kernel
theorem dX11_readLayer_48 : decode cX11_readLayer 48 = .ok (.iload_n 1, 1) := by decide +kernel
theorem dX11_readLayer_49 : decode cX11_readLayer 49 = .ok (.iadd, 1) := by decide +kernel
theorem dX11_readLayer_50 : decode cX11_readLayer 50 = .ok (.iconst 1, 1) := by decide +kernel
theorem dX11_readLayer_51 : decode cX11_readLayer 51 = .ok (.sipush 400, 3) := by decide +kernel
theorem dX11_readLayer_54 : decode cX11_readLayer 54 = .ok (.invokevirtual 308, 3) := by decide +kernel
theorem dX11_readLayer_57 : decode cX11_readLayer 57 = .ok (.ifCond .ne 5, 3) := by decide +kernel
theorem dX11_readLayer_60 : decode cX11_readLayer 60 = .ok (.iconst 0, 1) := by decide +kernel
theorem dX11_readLayer_61 : decode cX11_readLayer 61 = .ok (.ireturn, 1) := by decide +kernel
theorem dX11_readLayer_62 : decode cX11_readLayer 62 = .ok (.aload_n 0, 1) := by decide +kernel
theorem dX11_readLayer_63 : decode cX11_readLayer 63 = .ok (.getfield 13, 3) := by decide +kernel
theorem dX11_readLayer_66 : decode cX11_readLayer 66 = .ok (.bipush 83, 2) := by decide +kernel
theorem dX11_readLayer_68 : decode cX11_readLayer 68 = .ok (.iload_n 1, 1) := by decide +kernel
theorem dX11_readLayer_69 : decode cX11_readLayer 69 = .ok (.iadd, 1) := by decide +kernel
theorem dX11_readLayer_70 : decode cX11_readLayer 70 = .ok (.aload_n 0, 1) := by decide +kernel
theorem dX11_readLayer_71 : decode cX11_readLayer 71 = .ok (.ldc_w 321, 3) := by decide +kernel
theorem dX11_readLayer_74 : decode cX11_readLayer 74 = .ok (.invokevirtual 301, 3) := by decide +kernel
theorem dX11_readLayer_77 : decode cX11_readLayer 77 = .ok (.ifCond .eq 7, 3) := by decide +kernel
theorem dX11_readLayer_80 : decode cX11_readLayer 80 = .ok (.iconst 1, 1) := by decide +kernel
theorem dX11_readLayer_81 : decode cX11_readLayer 81 = .ok (.goto 4, 3) := by decide +kernel
theorem dX11_readLayer_84 : decode cX11_readLayer 84 = .ok (.iconst 0, 1) := by decide +kernel
theorem dX11_readLayer_85 : decode cX11_readLayer 85 = .ok (.iastore, 1) := by decide +kernel
theorem dX11_readLayer_86 : decode cX11_readLayer 86 = .ok (.aload_n 0, 1) := by decide +kernel
theorem dX11_readLayer_87 : decode cX11_readLayer 87 = .ok (.ldc_w 321, 3) := by decide +kernel
theorem dX11_readLayer_90 : decode cX11_readLayer 90 = .ok (.invokevirtual 301, 3) := by decide +kernel
theorem dX11_readLayer_93 : decode cX11_readLayer 93 = .ok (.ifCond .eq 7, 3) := by decide +kernel
theorem dX11_readLayer_96 : decode cX11_readLayer 96 = .ok (.aload_n 0, 1) := by decide +kernel
theorem dX11_readLayer_97 : decode cX11_readLayer 97 = .ok (.invokevirtual 285, 3) := by decide +kernel
theorem dX11_readLayer_100 : decode cX11_readLayer 100 = .ok (.aload_n 0, 1) := by decide +kernel
theorem dX11_readLayer_101 : decode cX11_readLayer 101 = .ok (.getfield 13, 3) := by decide +kernel
theorem dX11_readLayer_104 : decode cX11_readLayer 104 = .ok (.bipush 8, 2) := by decide +kernel
theorem dX11_readLayer_106 : decode cX11_readLayer 106 = .ok (.dup2, 1) := by decide +kernel
theorem dX11_readLayer_107 : decode cX11_readLayer 107 = .ok (.iaload, 1) := by decide +kernel
theorem dX11_readLayer_108 : decode cX11_readLayer 108 = .ok (.iconst 1, 1) := by decide +kernel
theorem dX11_readLayer_109 : decode cX11_readLayer 109 = .ok (.iadd, 1) := by decide +kernel
theorem dX11_readLayer_110 : decode cX11_readLayer 110 = .ok (.iastore, 1) := by decide +kernel
theorem dX11_readLayer_111 : decode cX11_readLayer 111 = .ok (.iconst 1, 1) := by decide +kernel
theorem dX11_readLayer_112 : decode cX11_readLayer 112 = .ok (.ireturn, 1) := by decide +kernel
theorem dX11_readReserve_0 : decode cX11_readReserve 0 = .ok (.aload_n 0, 1) := by decide +kernel
theorem dX11_readReserve_1 : decode cX11_readReserve 1 = .ok (.iconst 3, 1) := by decide +kernel
theorem dX11_readReserve_2 : decode cX11_readReserve 2 = .ok (.aload_n 0, 1) := by decide +kernel
theorem dX11_readReserve_3 : decode cX11_readReserve 3 = .ok (.getfield 13, 3) := by decide +kernel
theorem dX11_readReserve_6 : decode cX11_readReserve 6 = .ok (.bipush 9, 2) := by decide +kernel
theorem dX11_readReserve_8 : decode cX11_readReserve 8 = .ok (.iaload, 1) := by decide +kernel
theorem dX11_readReserve_9 : decode cX11_readReserve 9 = .ok (.ifCond .ne 7, 3) := by decide +kernel
theorem dX11_readReserve_12 : decode cX11_readReserve 12 = .ok (.iconst 1, 1) := by decide +kernel
theorem dX11_readReserve_13 : decode cX11_readReserve 13 = .ok (.goto 4, 3) := by decide +kernel
theorem dX11_readReserve_16 : decode cX11_readReserve 16 = .ok (.iconst 0, 1) := by decide +kernel
theorem dX11_readReserve_17 : decode cX11_readReserve 17 = .ok (.invokevirtual 294, 3) := by decide +kernel
theorem dX11_readReserve_20 : decode cX11_readReserve 20 = .ok (.ifCond .eq 34, 3) := by decide +kernel
theorem dX11_readReserve_23 : decode cX11_readReserve 23 = .ok (.aload_n 0, 1) := by decide +kernel
theorem dX11_readReserve_24 : decode cX11_readReserve 24 = .ok (.bipush 8, 2) := by decide +kernel
theorem dX11_readReserve_26 : decode cX11_readReserve 26 = .ok (.invokevirtual 316, 3) := by decide +kernel
theorem dX11_readReserve_29 : decode cX11_readReserve 29 = .ok (.ifCond .eq 25, 3) := by decide +kernel
theorem dX11_readReserve_32 : decode cX11_readReserve 32 = .ok (.aload_n 0, 1) := by decide +kernel
theorem dX11_readReserve_33 : decode cX11_readReserve 33 = .ok (.ldc_w 323, 3) := by decide +kernel
theorem dX11_readReserve_36 : decode cX11_readReserve 36 = .ok (.invokevirtual 313, 3) := by decide +kernel
theorem dX11_readReserve_39 : decode cX11_readReserve 39 = .ok (.ifCond .eq 15, 3) := by decide +kernel
theorem dX11_readReserve_42 : decode cX11_readReserve 42 = .ok (.aload_n 0, 1) := by decide +kernel
theorem dX11_readReserve_43 : decode cX11_readReserve 43 = .ok (.bipush 64, 2) := by decide +kernel
theorem dX11_readReserve_45 : decode cX11_readReserve 45 = .ok (.iconst 1, 1) := by decide +kernel
theorem dX11_readReserve_46 : decode cX11_readReserve 46 = .ok (.bipush 8, 2) := by decide +kernel
theorem dX11_readReserve_48 : decode cX11_readReserve 48 = .ok (.invokevirtual 308, 3) := by decide +kernel
theorem dX11_readReserve_51 : decode cX11_readReserve 51 = .ok (.ifCond .ne 5, 3) := by decide +kernel
theorem dX11_readReserve_54 : decode cX11_readReserve 54 = .ok (.iconst 0, 1) := by decide +kernel
theorem dX11_readReserve_55 : decode cX11_readReserve 55 = .ok (.ireturn, 1) := by decide +kernel
theorem dX11_readReserve_56 : decode cX11_readReserve 56 = .ok (.aload_n 0, 1) := by decide +kernel
theorem dX11_readReserve_57 : decode cX11_readReserve 57 = .ok (.getfield 13, 3) := by decide +kernel
theorem dX11_readReserve_60 : decode cX11_readReserve 60 = .ok (.bipush 9, 2) := by decide +kernel
theorem dX11_readReserve_62 : decode cX11_readReserve 62 = .ok (.iconst 1, 1) := by decide +kernel
theorem dX11_readReserve_63 : decode cX11_readReserve 63 = .ok (.iastore, 1) := by decide +kernel
theorem dX11_readReserve_64 : decode cX11_readReserve 64 = .ok (.iconst 1, 1) := by decide +kernel
theorem dX11_readReserve_65 : decode cX11_readReserve 65 = .ok (.ireturn, 1) := by decide +kernel
theorem dX11_takesHeight_0 : decode cX11_takesHeight 0 = .ok (.aload_n 0, 1) := by decide +kernel
theorem dX11_takesHeight_1 : decode cX11_takesHeight 1 = .ok (.iconst 4, 1) := by decide +kernel
theorem dX11_takesHeight_2 : decode cX11_takesHeight 2 = .ok (.aload_n 0, 1) := by decide +kernel
theorem dX11_takesHeight_3 : decode cX11_takesHeight 3 = .ok (.getfield 13, 3) := by decide +kernel
theorem dX11_takesHeight_6 : decode cX11_takesHeight 6 = .ok (.iload_n 2, 1) := by decide +kernel
theorem dX11_takesHeight_7 : decode cX11_takesHeight 7 = .ok (.iaload, 1) := by decide +kernel
theorem dX11_takesHeight_8 : decode cX11_takesHeight 8 = .ok (.bipush 8, 2) := by decide +kernel
theorem dX11_takesHeight_10 : decode cX11_takesHeight 10 = .ok (.if_icmp .ge 7, 3) := by decide +kernel
theorem dX11_takesHeight_13 : decode cX11_takesHeight 13 = .ok (.iconst 1, 1) := by decide +kernel
theorem dX11_takesHeight_14 : decode cX11_takesHeight 14 = .ok (.goto 4, 3) := by decide +kernel
theorem dX11_takesHeight_17 : decode cX11_takesHeight 17 = .ok (.iconst 0, 1) := by decide +kernel
theorem dX11_takesHeight_18 : decode cX11_takesHeight 18 = .ok (.invokevirtual 294, 3) := by decide +kernel
theorem dX11_takesHeight_21 : decode cX11_takesHeight 21 = .ok (.ifCond .eq 14, 3) := by decide +kernel
theorem dX11_takesHeight_24 : decode cX11_takesHeight 24 = .ok (.aload_n 0, 1) := by decide +kernel
theorem dX11_takesHeight_25 : decode cX11_takesHeight 25 = .ok (.iload_n 3, 1) := by decide +kernel
theorem dX11_takesHeight_26 : decode cX11_takesHeight 26 = .ok (.sipush 30000, 3) := by decide +kernel
theorem dX11_takesHeight_29 : decode cX11_takesHeight 29 = .ok (.invokevirtual 291, 3) := by decide +kernel
theorem dX11_takesHeight_32 : decode cX11_takesHeight 32 = .ok (.ifCond .ne 5, 3) := by decide +kernel
theorem dX11_takesHeight_35 : decode cX11_takesHeight 35 = .ok (.iconst 0, 1) := by decide +kernel
theorem dX11_takesHeight_36 : decode cX11_takesHeight 36 = .ok (.ireturn, 1) := by decide +kernel
theorem dX11_takesHeight_37 : decode cX11_takesHeight 37 = .ok (.iconst 0, 1) := by decide +kernel
theorem dX11_takesHeight_38 : decode cX11_takesHeight 38 = .ok (.istore 4, 2) := by decide +kernel
theorem dX11_takesHeight_40 : decode cX11_takesHeight 40 = .ok (.iload 4, 2) := by decide +kernel
theorem dX11_takesHeight_42 : decode cX11_takesHeight 42 = .ok (.aload_n 0, 1) := by decide +kernel
theorem dX11_takesHeight_43 : decode cX11_takesHeight 43 = .ok (.getfield 13, 3) := by decide +kernel
theorem dX11_takesHeight_46 : decode cX11_takesHeight 46 = .ok (.iload_n 2, 1) := by decide +kernel
theorem dX11_takesHeight_47 : decode cX11_takesHeight 47 = .ok (.iaload, 1) := by decide +kernel
theorem dX11_takesHeight_48 : decode cX11_takesHeight 48 = .ok (.if_icmp .ge 33, 3) := by decide +kernel
theorem dX11_takesHeight_51 : decode cX11_takesHeight 51 = .ok (.aload_n 0, 1) := by decide +kernel
theorem dX11_takesHeight_52 : decode cX11_takesHeight 52 = .ok (.getfield 13, 3) := by decide +kernel
theorem dX11_takesHeight_55 : decode cX11_takesHeight 55 = .ok (.iload_n 1, 1) := by decide +kernel
theorem dX11_takesHeight_56 : decode cX11_takesHeight 56 = .ok (.iconst 2, 1) := by decide +kernel
theorem dX11_takesHeight_57 : decode cX11_takesHeight 57 = .ok (.iload 4, 2) := by decide +kernel
theorem dX11_takesHeight_59 : decode cX11_takesHeight 59 = .ok (.imul, 1) := by decide +kernel
theorem dX11_takesHeight_60 : decode cX11_takesHeight 60 = .ok (.iadd, 1) := by decide +kernel
theorem dX11_takesHeight_61 : decode cX11_takesHeight 61 = .ok (.iaload, 1) := by decide +kernel
theorem dX11_takesHeight_62 : decode cX11_takesHeight 62 = .ok (.aload_n 0, 1) := by decide +kernel
theorem dX11_takesHeight_63 : decode cX11_takesHeight 63 = .ok (.getfield 288, 3) := by decide +kernel
theorem dX11_takesHeight_66 : decode cX11_takesHeight 66 = .ok (.if_icmp .ne 9, 3) := by decide +kernel
theorem dX11_takesHeight_69 : decode cX11_takesHeight 69 = .ok (.aload_n 0, 1) := by decide +kernel
theorem dX11_takesHeight_70 : decode cX11_takesHeight 70 = .ok (.iconst 3, 1) := by decide +kernel
theorem dX11_takesHeight_71 : decode cX11_takesHeight 71 = .ok (.invokevirtual 282, 3) := by decide +kernel
theorem dX11_takesHeight_74 : decode cX11_takesHeight 74 = .ok (.ireturn, 1) := by decide +kernel
theorem dX11_takesHeight_75 : decode cX11_takesHeight 75 = .ok (.iinc 4 1, 3) := by decide +kernel
theorem dX11_takesHeight_78 : decode cX11_takesHeight 78 = .ok (.goto (-38), 3) := by decide +kernel
theorem dX11_takesHeight_81 : decode cX11_takesHeight 81 = .ok (.aload_n 0, 1) := by decide +kernel
theorem dX11_takesHeight_82 : decode cX11_takesHeight 82 = .ok (.getfield 13, 3) := by decide +kernel
theorem dX11_takesHeight_85 : decode cX11_takesHeight 85 = .ok (.iload_n 1, 1) := by decide +kernel
theorem dX11_takesHeight_86 : decode cX11_takesHeight 86 = .ok (.iconst 2, 1) := by decide +kernel
theorem dX11_takesHeight_87 : decode cX11_takesHeight 87 = .ok (.aload_n 0, 1) := by decide +kernel
theorem dX11_takesHeight_88 : decode cX11_takesHeight 88 = .ok (.getfield 13, 3) := by decide +kernel
theorem dX11_takesHeight_91 : decode cX11_takesHeight 91 = .ok (.iload_n 2, 1) := by decide +kernel
theorem dX11_takesHeight_92 : decode cX11_takesHeight 92 = .ok (.iaload, 1) := by decide +kernel
theorem dX11_takesHeight_93 : decode cX11_takesHeight 93 = .ok (.imul, 1) := by decide +kernel
theorem dX11_takesHeight_94 : decode cX11_takesHeight 94 = .ok (.iadd, 1) := by decide +kernel
theorem dX11_takesHeight_95 : decode cX11_takesHeight 95 = .ok (.aload_n 0, 1) := by decide +kernel
theorem dX11_takesHeight_96 : decode cX11_takesHeight 96 = .ok (.getfield 288, 3) := by decide +kernel
theorem dX11_takesHeight_99 : decode cX11_takesHeight 99 = .ok (.iastore, 1) := by decide +kernel
theorem dX11_takesHeight_100 : decode cX11_takesHeight 100 = .ok (.aload_n 0, 1) := by decide +kernel
theorem dX11_takesHeight_101 : decode cX11_takesHeight 101 = .ok (.invokevirtual 285, 3) := by decide +kernel
theorem dX11_takesHeight_104 : decode cX11_takesHeight 104 = .ok (.iconst 1, 1) := by decide +kernel
theorem dX11_takesHeight_105 : decode cX11_takesHeight 105 = .ok (.ireturn, 1) := by decide +kernel
theorem dX11_readTarget_0 : decode cX11_readTarget 0 = .ok (.aload_n 0, 1) := by decide +kernel
theorem dX11_readTarget_1 : decode cX11_readTarget 1 = .ok (.bipush 92, 2) := by decide +kernel
theorem dX11_readTarget_3 : decode cX11_readTarget 3 = .ok (.bipush 10, 2) := by decide +kernel
theorem dX11_readTarget_5 : decode cX11_readTarget 5 = .ok (.iconst 1, 1) := by decide +kernel
theorem dX11_readTarget_6 : decode cX11_readTarget 6 = .ok (.invokevirtual 325, 3) := by decide +kernel
theorem dX11_readTarget_9 : decode cX11_readTarget 9 = .ok (.ifCond .eq 28, 3) := by decide +kernel
theorem dX11_readTarget_12 : decode cX11_readTarget 12 = .ok (.aload_n 0, 1) := by decide +kernel
theorem dX11_readTarget_13 : decode cX11_readTarget 13 = .ok (.bipush 92, 2) := by decide +kernel
theorem dX11_readTarget_15 : decode cX11_readTarget 15 = .ok (.iconst 2, 1) := by decide +kernel
theorem dX11_readTarget_16 : decode cX11_readTarget 16 = .ok (.aload_n 0, 1) := by decide +kernel
theorem dX11_readTarget_17 : decode cX11_readTarget 17 = .ok (.getfield 13, 3) := by decide +kernel
theorem dX11_readTarget_20 : decode cX11_readTarget 20 = .ok (.bipush 10, 2) := by decide +kernel
theorem dX11_readTarget_22 : decode cX11_readTarget 22 = .ok (.iaload, 1) := by decide +kernel
theorem dX11_readTarget_23 : decode cX11_readTarget 23 = .ok (.imul, 1) := by decide +kernel
theorem dX11_readTarget_24 : decode cX11_readTarget 24 = .ok (.iadd, 1) := by decide +kernel
theorem dX11_readTarget_25 : decode cX11_readTarget 25 = .ok (.iconst 1, 1) := by decide +kernel
theorem dX11_readTarget_26 : decode cX11_readTarget 26 = .ok (.iadd, 1) := by decide +kernel
theorem dX11_readTarget_27 : decode cX11_readTarget 27 = .ok (.iconst 1, 1) := by decide +kernel
theorem dX11_readTarget_28 : decode cX11_readTarget 28 = .ok (.sipush 400, 3) := by decide +kernel
theorem dX11_readTarget_31 : decode cX11_readTarget 31 = .ok (.invokevirtual 308, 3) := by decide +kernel
theorem dX11_readTarget_34 : decode cX11_readTarget 34 = .ok (.ifCond .ne 5, 3) := by decide +kernel
theorem dX11_readTarget_37 : decode cX11_readTarget 37 = .ok (.iconst 0, 1) := by decide +kernel
theorem dX11_readTarget_38 : decode cX11_readTarget 38 = .ok (.ireturn, 1) := by decide +kernel
theorem dX11_readTarget_39 : decode cX11_readTarget 39 = .ok (.aload_n 0, 1) := by decide +kernel
theorem dX11_readTarget_40 : decode cX11_readTarget 40 = .ok (.getfield 13, 3) := by decide +kernel
theorem dX11_readTarget_43 : decode cX11_readTarget 43 = .ok (.bipush 10, 2) := by decide +kernel
theorem dX11_readTarget_45 : decode cX11_readTarget 45 = .ok (.dup2, 1) := by decide +kernel
theorem dX11_readTarget_46 : decode cX11_readTarget 46 = .ok (.iaload, 1) := by decide +kernel
theorem dX11_readTarget_47 : decode cX11_readTarget 47 = .ok (.iconst 1, 1) := by decide +kernel
theorem dX11_readTarget_48 : decode cX11_readTarget 48 = .ok (.iadd, 1) := by decide +kernel
theorem dX11_readTarget_49 : decode cX11_readTarget 49 = .ok (.iastore, 1) := by decide +kernel
theorem dX11_readTarget_50 : decode cX11_readTarget 50 = .ok (.iconst 1, 1) := by decide +kernel
theorem dX11_readTarget_51 : decode cX11_readTarget 51 = .ok (.ireturn, 1) := by decide +kernel
theorem dX11_readWind_0 : decode cX11_readWind 0 = .ok (.aload_n 0, 1) := by decide +kernel
theorem dX11_readWind_1 : decode cX11_readWind 1 = .ok (.bipush 108, 2) := by decide +kernel
theorem dX11_readWind_3 : decode cX11_readWind 3 = .ok (.bipush 11, 2) := by decide +kernel
theorem dX11_readWind_5 : decode cX11_readWind 5 = .ok (.iconst 0, 1) := by decide +kernel
theorem dX11_readWind_6 : decode cX11_readWind 6 = .ok (.invokevirtual 325, 3) := by decide +kernel
theorem dX11_readWind_9 : decode cX11_readWind 9 = .ok (.ifCond .eq 12, 3) := by decide +kernel
theorem dX11_readWind_12 : decode cX11_readWind 12 = .ok (.aload_n 0, 1) := by decide +kernel
theorem dX11_readWind_13 : decode cX11_readWind 13 = .ok (.bipush 40, 2) := by decide +kernel
theorem dX11_readWind_15 : decode cX11_readWind 15 = .ok (.invokevirtual 328, 3) := by decide +kernel
theorem dX11_readWind_18 : decode cX11_readWind 18 = .ok (.ifCond .ne 5, 3) := by decide +kernel
theorem dX11_readWind_21 : decode cX11_readWind 21 = .ok (.iconst 0, 1) := by decide +kernel
theorem dX11_readWind_22 : decode cX11_readWind 22 = .ok (.ireturn, 1) := by decide +kernel
theorem dX11_readWind_23 : decode cX11_readWind 23 = .ok (.aload_n 0, 1) := by decide +kernel
theorem dX11_readWind_24 : decode cX11_readWind 24 = .ok (.getfield 13, 3) := by decide +kernel
theorem dX11_readWind_27 : decode cX11_readWind 27 = .ok (.bipush 108, 2) := by decide +kernel
theorem dX11_readWind_29 : decode cX11_readWind 29 = .ok (.iconst 2, 1) := by decide +kernel
theorem dX11_readWind_30 : decode cX11_readWind 30 = .ok (.aload_n 0, 1) := by decide +kernel
theorem dX11_readWind_31 : decode cX11_readWind 31 = .ok (.getfield 13, 3) := by decide +kernel
theorem dX11_readWind_34 : decode cX11_readWind 34 = .ok (.bipush 11, 2) := by decide +kernel
theorem dX11_readWind_36 : decode cX11_readWind 36 = .ok (.iaload, 1) := by decide +kernel
theorem dX11_readWind_37 : decode cX11_readWind 37 = .ok (.imul, 1) := by decide +kernel
theorem dX11_readWind_38 : decode cX11_readWind 38 = .ok (.iadd, 1) := by decide +kernel
theorem dX11_readWind_39 : decode cX11_readWind 39 = .ok (.iconst 1, 1) := by decide +kernel
theorem dX11_readWind_40 : decode cX11_readWind 40 = .ok (.iadd, 1) := by decide +kernel
theorem dX11_readWind_41 : decode cX11_readWind 41 = .ok (.aload_n 0, 1) := by decide +kernel
theorem dX11_readWind_42 : decode cX11_readWind 42 = .ok (.getfield 288, 3) := by decide +kernel
theorem dX11_readWind_45 : decode cX11_readWind 45 = .ok (.iastore, 1) := by decide +kernel
theorem dX11_readWind_46 : decode cX11_readWind 46 = .ok (.aload_n 0, 1) := by decide +kernel
theorem dX11_readWind_47 : decode cX11_readWind 47 = .ok (.getfield 13, 3) := by decide +kernel
theorem dX11_readWind_50 : decode cX11_readWind 50 = .ok (.bipush 11, 2) := by decide +kernel
theorem dX11_readWind_52 : decode cX11_readWind 52 = .ok (.dup2, 1) := by decide +kernel
theorem dX11_readWind_53 : decode cX11_readWind 53 = .ok (.iaload, 1) := by decide +kernel
theorem dX11_readWind_54 : decode cX11_readWind 54 = .ok (.iconst 1, 1) := by decide +kernel
theorem dX11_readWind_55 : decode cX11_readWind 55 = .ok (.iadd, 1) := by decide +kernel
theorem dX11_readWind_56 : decode cX11_readWind 56 = .ok (.iastore, 1) := by decide +kernel
theorem dX11_readWind_57 : decode cX11_readWind 57 = .ok (.iconst 1, 1) := by decide +kernel
theorem dX11_readWind_58 : decode cX11_readWind 58 = .ok (.ireturn, 1) := by decide +kernel
theorem dX11_readSpot_0 : decode cX11_readSpot 0 = .ok (.bipush 124, 2) := by decide +kernel
theorem dX11_readSpot_2 : decode cX11_readSpot 2 = .ok (.iconst 3, 1) := by decide +kernel
theorem dX11_readSpot_3 : decode cX11_readSpot 3 = .ok (.aload_n 0, 1) := by decide +kernel
theorem dX11_readSpot_4 : decode cX11_readSpot 4 = .ok (.getfield 13, 3) := by decide +kernel
theorem dX11_readSpot_7 : decode cX11_readSpot 7 = .ok (.bipush 12, 2) := by decide +kernel
theorem dX11_readSpot_9 : decode cX11_readSpot 9 = .ok (.iaload, 1) := by decide +kernel
theorem dX11_readSpot_10 : decode cX11_readSpot 10 = .ok (.imul, 1) := by decide +kernel
theorem dX11_readSpot_11 : decode cX11_readSpot 11 = .ok (.iadd, 1) := by decide +kernel
theorem dX11_readSpot_12 : decode cX11_readSpot 12 = .ok (.istore_n 1, 1) := by decide +kernel
theorem dX11_readSpot_13 : decode cX11_readSpot 13 = .ok (.aload_n 0, 1) := by decide +kernel
theorem dX11_readSpot_14 : decode cX11_readSpot 14 = .ok (.iconst 4, 1) := by decide +kernel
theorem dX11_readSpot_15 : decode cX11_readSpot 15 = .ok (.aload_n 0, 1) := by decide +kernel
theorem dX11_readSpot_16 : decode cX11_readSpot 16 = .ok (.getfield 13, 3) := by decide +kernel
theorem dX11_readSpot_19 : decode cX11_readSpot 19 = .ok (.bipush 12, 2) := by decide +kernel
theorem dX11_readSpot_21 : decode cX11_readSpot 21 = .ok (.iaload, 1) := by decide +kernel
theorem dX11_readSpot_22 : decode cX11_readSpot 22 = .ok (.bipush 8, 2) := by decide +kernel
theorem dX11_readSpot_24 : decode cX11_readSpot 24 = .ok (.if_icmp .ge 7, 3) := by decide +kernel
theorem dX11_readSpot_27 : decode cX11_readSpot 27 = .ok (.iconst 1, 1) := by decide +kernel
theorem dX11_readSpot_28 : decode cX11_readSpot 28 = .ok (.goto 4, 3) := by decide +kernel
theorem dX11_readSpot_31 : decode cX11_readSpot 31 = .ok (.iconst 0, 1) := by decide +kernel
theorem dX11_readSpot_32 : decode cX11_readSpot 32 = .ok (.invokevirtual 294, 3) := by decide +kernel
theorem dX11_readSpot_35 : decode cX11_readSpot 35 = .ok (.ifCond .eq 13, 3) := by decide +kernel
theorem dX11_readSpot_38 : decode cX11_readSpot 38 = .ok (.aload_n 0, 1) := by decide +kernel
theorem dX11_readSpot_39 : decode cX11_readSpot 39 = .ok (.sipush 9999, 3) := by decide +kernel
theorem dX11_readSpot_42 : decode cX11_readSpot 42 = .ok (.invokevirtual 328, 3) := by decide +kernel
theorem dX11_readSpot_45 : decode cX11_readSpot 45 = .ok (.ifCond .ne 5, 3) := by decide +kernel
theorem dX11_readSpot_48 : decode cX11_readSpot 48 = .ok (.iconst 0, 1) := by decide +kernel
theorem dX11_readSpot_49 : decode cX11_readSpot 49 = .ok (.ireturn, 1) := by decide +kernel
theorem dX11_readSpot_50 : decode cX11_readSpot 50 = .ok (.aload_n 0, 1) := by decide +kernel
theorem dX11_readSpot_51 : decode cX11_readSpot 51 = .ok (.getfield 13, 3) := by decide +kernel
theorem dX11_readSpot_54 : decode cX11_readSpot 54 = .ok (.iload_n 1, 1) := by decide +kernel
theorem dX11_readSpot_55 : decode cX11_readSpot 55 = .ok (.aload_n 0, 1) := by decide +kernel
theorem dX11_readSpot_56 : decode cX11_readSpot 56 = .ok (.getfield 288, 3) := by decide +kernel
theorem dX11_readSpot_59 : decode cX11_readSpot 59 = .ok (.iastore, 1) := by decide +kernel
theorem dX11_readSpot_60 : decode cX11_readSpot 60 = .ok (.aload_n 0, 1) := by decide +kernel
theorem dX11_readSpot_61 : decode cX11_readSpot 61 = .ok (.sipush 9999, 3) := by decide +kernel
theorem dX11_readSpot_64 : decode cX11_readSpot 64 = .ok (.invokevirtual 298, 3) := by decide +kernel
theorem dX11_readSpot_67 : decode cX11_readSpot 67 = .ok (.ifCond .ne 5, 3) := by decide +kernel
theorem dX11_readSpot_70 : decode cX11_readSpot 70 = .ok (.iconst 0, 1) := by decide +kernel
theorem dX11_readSpot_71 : decode cX11_readSpot 71 = .ok (.ireturn, 1) := by decide +kernel
theorem dX11_readSpot_72 : decode cX11_readSpot 72 = .ok (.aload_n 0, 1) := by decide +kernel
theorem dX11_readSpot_73 : decode cX11_readSpot 73 = .ok (.getfield 288, 3) := by decide +kernel
theorem dX11_readSpot_76 : decode cX11_readSpot 76 = .ok (.aload_n 0, 1) := by decide +kernel
theorem dX11_readSpot_77 : decode cX11_readSpot 77 = .ok (.getfield 13, 3) := by decide +kernel
theorem dX11_readSpot_80 : decode cX11_readSpot 80 = .ok (.iload_n 1, 1) := by decide +kernel
theorem dX11_readSpot_81 : decode cX11_readSpot 81 = .ok (.iaload, 1) := by decide +kernel
theorem dX11_readSpot_82 : decode cX11_readSpot 82 = .ok (.if_icmp .ge 9, 3) := by decide +kernel
theorem dX11_readSpot_85 : decode cX11_readSpot 85 = .ok (.aload_n 0, 1) := by decide +kernel
theorem dX11_readSpot_86 : decode cX11_readSpot 86 = .ok (.iconst 3, 1) := by decide +kernel
theorem dX11_readSpot_87 : decode cX11_readSpot 87 = .ok (.invokevirtual 282, 3) := by decide +kernel
theorem dX11_readSpot_90 : decode cX11_readSpot 90 = .ok (.ireturn, 1) := by decide +kernel
theorem dX11_readSpot_91 : decode cX11_readSpot 91 = .ok (.aload_n 0, 1) := by decide +kernel
theorem dX11_readSpot_92 : decode cX11_readSpot 92 = .ok (.getfield 13, 3) := by decide +kernel
theorem dX11_readSpot_95 : decode cX11_readSpot 95 = .ok (.iload_n 1, 1) := by decide +kernel
theorem dX11_readSpot_96 : decode cX11_readSpot 96 = .ok (.iconst 1, 1) := by decide +kernel
theorem dX11_readSpot_97 : decode cX11_readSpot 97 = .ok (.iadd, 1) := by decide +kernel
theorem dX11_readSpot_98 : decode cX11_readSpot 98 = .ok (.aload_n 0, 1) := by decide +kernel
theorem dX11_readSpot_99 : decode cX11_readSpot 99 = .ok (.getfield 288, 3) := by decide +kernel
theorem dX11_readSpot_102 : decode cX11_readSpot 102 = .ok (.iastore, 1) := by decide +kernel
theorem dX11_readSpot_103 : decode cX11_readSpot 103 = .ok (.aload_n 0, 1) := by decide +kernel
theorem dX11_readSpot_104 : decode cX11_readSpot 104 = .ok (.invokevirtual 285, 3) := by decide +kernel
theorem dX11_readSpot_107 : decode cX11_readSpot 107 = .ok (.aload_n 0, 1) := by decide +kernel
theorem dX11_readSpot_108 : decode cX11_readSpot 108 = .ok (.iload_n 1, 1) := by decide +kernel
theorem dX11_readSpot_109 : decode cX11_readSpot 109 = .ok (.iconst 2, 1) := by decide +kernel
theorem dX11_readSpot_110 : decode cX11_readSpot 110 = .ok (.iadd, 1) := by decide +kernel
theorem dX11_readSpot_111 : decode cX11_readSpot 111 = .ok (.iconst 1, 1) := by decide +kernel
theorem dX11_readSpot_112 : decode cX11_readSpot 112 = .ok (.bipush 99, 2) := by decide +kernel
theorem dX11_readSpot_114 : decode cX11_readSpot 114 = .ok (.invokevirtual 308, 3) := by decide +kernel
theorem dX11_readSpot_117 : decode cX11_readSpot 117 = .ok (.ifCond .ne 5, 3) := by decide +kernel
theorem dX11_readSpot_120 : decode cX11_readSpot 120 = .ok (.iconst 0, 1) := by decide +kernel
theorem dX11_readSpot_121 : decode cX11_readSpot 121 = .ok (.ireturn, 1) := by decide +kernel
theorem dX11_readSpot_122 : decode cX11_readSpot 122 = .ok (.aload_n 0, 1) := by decide +kernel
theorem dX11_readSpot_123 : decode cX11_readSpot 123 = .ok (.getfield 13, 3) := by decide +kernel
theorem dX11_readSpot_126 : decode cX11_readSpot 126 = .ok (.bipush 12, 2) := by decide +kernel
theorem dX11_readSpot_128 : decode cX11_readSpot 128 = .ok (.dup2, 1) := by decide +kernel
theorem dX11_readSpot_129 : decode cX11_readSpot 129 = .ok (.iaload, 1) := by decide +kernel
theorem dX11_readSpot_130 : decode cX11_readSpot 130 = .ok (.iconst 1, 1) := by decide +kernel
theorem dX11_readSpot_131 : decode cX11_readSpot 131 = .ok (.iadd, 1) := by decide +kernel
theorem dX11_readSpot_132 : decode cX11_readSpot 132 = .ok (.iastore, 1) := by decide +kernel
theorem dX11_readSpot_133 : decode cX11_readSpot 133 = .ok (.iconst 1, 1) := by decide +kernel
theorem dX11_readSpot_134 : decode cX11_readSpot 134 = .ok (.ireturn, 1) := by decide +kernel
theorem dX11_readStatement_0 : decode cX11_readStatement 0 = .ok (.aload_n 0, 1) := by decide +kernel
theorem dX11_readStatement_1 : decode cX11_readStatement 1 = .ok (.ldc_w 331, 3) := by decide +kernel
theorem dX11_readStatement_4 : decode cX11_readStatement 4 = .ok (.invokevirtual 301, 3) := by decide +kernel
theorem dX11_readStatement_7 : decode cX11_readStatement 7 = .ok (.ifCond .eq 8, 3) := by decide +kernel
theorem dX11_readStatement_10 : decode cX11_readStatement 10 = .ok (.aload_n 0, 1) := by decide +kernel
theorem dX11_readStatement_11 : decode cX11_readStatement 11 = .ok (.invokevirtual 333, 3) := by decide +kernel
theorem dX11_readStatement_14 : decode cX11_readStatement 14 = .ok (.ireturn, 1) := by decide +kernel
theorem dX11_readStatement_15 : decode cX11_readStatement 15 = .ok (.aload_n 0, 1) := by decide +kernel
theorem dX11_readStatement_16 : decode cX11_readStatement 16 = .ok (.ldc_w 336, 3) := by decide +kernel
theorem dX11_readStatement_19 : decode cX11_readStatement 19 = .ok (.invokevirtual 301, 3) := by decide +kernel
theorem dX11_readStatement_22 : decode cX11_readStatement 22 = .ok (.ifCond .eq 8, 3) := by decide +kernel
theorem dX11_readStatement_25 : decode cX11_readStatement 25 = .ok (.aload_n 0, 1) := by decide +kernel
theorem dX11_readStatement_26 : decode cX11_readStatement 26 = .ok (.invokevirtual 338, 3) := by decide +kernel
theorem dX11_readStatement_29 : decode cX11_readStatement 29 = .ok (.ireturn, 1) := by decide +kernel
theorem dX11_readStatement_30 : decode cX11_readStatement 30 = .ok (.aload_n 0, 1) := by decide +kernel
theorem dX11_readStatement_31 : decode cX11_readStatement 31 = .ok (.ldc_w 341, 3) := by decide +kernel
theorem dX11_readStatement_34 : decode cX11_readStatement 34 = .ok (.invokevirtual 301, 3) := by decide +kernel
theorem dX11_readStatement_37 : decode cX11_readStatement 37 = .ok (.ifCond .eq 8, 3) := by decide +kernel
theorem dX11_readStatement_40 : decode cX11_readStatement 40 = .ok (.aload_n 0, 1) := by decide +kernel
theorem dX11_readStatement_41 : decode cX11_readStatement 41 = .ok (.invokevirtual 343, 3) := by decide +kernel
theorem dX11_readStatement_44 : decode cX11_readStatement 44 = .ok (.ireturn, 1) := by decide +kernel
theorem dX11_readStatement_45 : decode cX11_readStatement 45 = .ok (.aload_n 0, 1) := by decide +kernel
theorem dX11_readStatement_46 : decode cX11_readStatement 46 = .ok (.ldc_w 346, 3) := by decide +kernel
theorem dX11_readStatement_49 : decode cX11_readStatement 49 = .ok (.invokevirtual 301, 3) := by decide +kernel
theorem dX11_readStatement_52 : decode cX11_readStatement 52 = .ok (.ifCond .eq 8, 3) := by decide +kernel
theorem dX11_readStatement_55 : decode cX11_readStatement 55 = .ok (.aload_n 0, 1) := by decide +kernel
theorem dX11_readStatement_56 : decode cX11_readStatement 56 = .ok (.invokevirtual 348, 3) := by decide +kernel
theorem dX11_readStatement_59 : decode cX11_readStatement 59 = .ok (.ireturn, 1) := by decide +kernel
theorem dX11_readStatement_60 : decode cX11_readStatement 60 = .ok (.aload_n 0, 1) := by decide +kernel
theorem dX11_readStatement_61 : decode cX11_readStatement 61 = .ok (.ldc_w 351, 3) := by decide +kernel
theorem dX11_readStatement_64 : decode cX11_readStatement 64 = .ok (.invokevirtual 301, 3) := by decide +kernel
theorem dX11_readStatement_67 : decode cX11_readStatement 67 = .ok (.ifCond .eq 8, 3) := by decide +kernel
theorem dX11_readStatement_70 : decode cX11_readStatement 70 = .ok (.aload_n 0, 1) := by decide +kernel
theorem dX11_readStatement_71 : decode cX11_readStatement 71 = .ok (.invokevirtual 353, 3) := by decide +kernel
theorem dX11_readStatement_74 : decode cX11_readStatement 74 = .ok (.ireturn, 1) := by decide +kernel
theorem dX11_readStatement_75 : decode cX11_readStatement 75 = .ok (.aload_n 0, 1) := by decide +kernel
theorem dX11_readStatement_76 : decode cX11_readStatement 76 = .ok (.ldc_w 356, 3) := by decide +kernel
theorem dX11_readStatement_79 : decode cX11_readStatement 79 = .ok (.invokevirtual 313, 3) := by decide +kernel
theorem dX11_readStatement_82 : decode cX11_readStatement 82 = .ok (.ifCond .eq 19, 3) := by decide +kernel
theorem dX11_readStatement_85 : decode cX11_readStatement 85 = .ok (.aload_n 0, 1) := by decide +kernel
theorem dX11_readStatement_86 : decode cX11_readStatement 86 = .ok (.bipush 7, 2) := by decide +kernel
theorem dX11_readStatement_88 : decode cX11_readStatement 88 = .ok (.iconst 0, 1) := by decide +kernel
theorem dX11_readStatement_89 : decode cX11_readStatement 89 = .ok (.bipush 99, 2) := by decide +kernel
theorem dX11_readStatement_91 : decode cX11_readStatement 91 = .ok (.invokevirtual 308, 3) := by decide +kernel
theorem dX11_readStatement_94 : decode cX11_readStatement 94 = .ok (.ifCond .eq 7, 3) := by decide +kernel
theorem dX11_readStatement_97 : decode cX11_readStatement 97 = .ok (.iconst 1, 1) := by decide +kernel
theorem dX11_readStatement_98 : decode cX11_readStatement 98 = .ok (.goto 4, 3) := by decide +kernel
theorem dX11_readStatement_101 : decode cX11_readStatement 101 = .ok (.iconst 0, 1) := by decide +kernel
theorem dX11_readStatement_102 : decode cX11_readStatement 102 = .ok (.ireturn, 1) := by decide +kernel
theorem dX11_load_0 : decode cX11_load 0 = .ok (.aload_n 0, 1) := by decide +kernel
theorem dX11_load_1 : decode cX11_load 1 = .ok (.iconst 0, 1) := by decide +kernel
theorem dX11_load_2 : decode cX11_load 2 = .ok (.putfield 50, 3) := by decide +kernel
theorem dX11_load_5 : decode cX11_load 5 = .ok (.aload_n 0, 1) := by decide +kernel
theorem dX11_load_6 : decode cX11_load 6 = .ok (.invokevirtual 358, 3) := by decide +kernel
theorem dX11_load_9 : decode cX11_load 9 = .ok (.aload_n 0, 1) := by decide +kernel
theorem dX11_load_10 : decode cX11_load 10 = .ok (.getfield 13, 3) := by decide +kernel
theorem dX11_load_13 : decode cX11_load 13 = .ok (.invokestatic 46, 3) := by decide +kernel
theorem dX11_load_16 : decode cX11_load 16 = .ok (.aload_n 0, 1) := by decide +kernel
theorem dX11_load_17 : decode cX11_load 17 = .ok (.ldc_w 361, 3) := by decide +kernel
theorem dX11_load_20 : decode cX11_load 20 = .ok (.invokevirtual 313, 3) := by decide +kernel
theorem dX11_load_23 : decode cX11_load 23 = .ok (.ifCond .eq 49, 3) := by decide +kernel
theorem dX11_load_26 : decode cX11_load 26 = .ok (.aload_n 0, 1) := by decide +kernel
theorem dX11_load_27 : decode cX11_load 27 = .ok (.iconst 0, 1) := by decide +kernel
theorem dX11_load_28 : decode cX11_load 28 = .ok (.iconst 1, 1) := by decide +kernel
theorem dX11_load_29 : decode cX11_load 29 = .ok (.sipush 30000, 3) := by decide +kernel
theorem dX11_load_32 : decode cX11_load 32 = .ok (.invokevirtual 308, 3) := by decide +kernel
theorem dX11_load_35 : decode cX11_load 35 = .ok (.ifCond .eq 37, 3) := by decide +kernel
theorem dX11_load_38 : decode cX11_load 38 = .ok (.aload_n 0, 1) := by decide +kernel
theorem dX11_load_39 : decode cX11_load 39 = .ok (.iconst 1, 1) := by decide +kernel
theorem dX11_load_40 : decode cX11_load 40 = .ok (.iconst 0, 1) := by decide +kernel
theorem dX11_load_41 : decode cX11_load 41 = .ok (.sipush 400, 3) := by decide +kernel
theorem dX11_load_44 : decode cX11_load 44 = .ok (.invokevirtual 308, 3) := by decide +kernel
theorem dX11_load_47 : decode cX11_load 47 = .ok (.ifCond .eq 25, 3) := by decide +kernel
theorem dX11_load_50 : decode cX11_load 50 = .ok (.aload_n 0, 1) := by decide +kernel
theorem dX11_load_51 : decode cX11_load 51 = .ok (.iconst 3, 1) := by decide +kernel
theorem dX11_load_52 : decode cX11_load 52 = .ok (.iconst 1, 1) := by decide +kernel
theorem dX11_load_53 : decode cX11_load 53 = .ok (.bipush 99, 2) := by decide +kernel
theorem dX11_load_55 : decode cX11_load 55 = .ok (.invokevirtual 308, 3) := by decide +kernel
theorem dX11_load_58 : decode cX11_load 58 = .ok (.ifCond .eq 14, 3) := by decide +kernel
theorem dX11_load_61 : decode cX11_load 61 = .ok (.aload_n 0, 1) := by decide +kernel
theorem dX11_load_62 : decode cX11_load 62 = .ok (.invokevirtual 363, 3) := by decide +kernel
theorem dX11_load_65 : decode cX11_load 65 = .ok (.ifCond .eq 7, 3) := by decide +kernel
theorem dX11_load_68 : decode cX11_load 68 = .ok (.iconst 1, 1) := by decide +kernel
theorem dX11_load_69 : decode cX11_load 69 = .ok (.goto 4, 3) := by decide +kernel
theorem dX11_load_72 : decode cX11_load 72 = .ok (.iconst 0, 1) := by decide +kernel
theorem dX11_load_73 : decode cX11_load 73 = .ok (.istore_n 1, 1) := by decide +kernel
theorem dX11_load_74 : decode cX11_load 74 = .ok (.iload_n 1, 1) := by decide +kernel
theorem dX11_load_75 : decode cX11_load 75 = .ok (.ifCond .eq 33, 3) := by decide +kernel
theorem dX11_load_78 : decode cX11_load 78 = .ok (.aload_n 0, 1) := by decide +kernel
theorem dX11_load_79 : decode cX11_load 79 = .ok (.getfield 261, 3) := by decide +kernel
theorem dX11_load_82 : decode cX11_load 82 = .ok (.ifCond .eq 26, 3) := by decide +kernel
theorem dX11_load_85 : decode cX11_load 85 = .ok (.aload_n 0, 1) := by decide +kernel
theorem dX11_load_86 : decode cX11_load 86 = .ok (.invokevirtual 366, 3) := by decide +kernel
theorem dX11_load_89 : decode cX11_load 89 = .ok (.ifCond .eq 14, 3) := by decide +kernel
theorem dX11_load_92 : decode cX11_load 92 = .ok (.aload_n 0, 1) := by decide +kernel
theorem dX11_load_93 : decode cX11_load 93 = .ok (.invokevirtual 363, 3) := by decide +kernel
theorem dX11_load_96 : decode cX11_load 96 = .ok (.ifCond .eq 7, 3) := by decide +kernel
theorem dX11_load_99 : decode cX11_load 99 = .ok (.iconst 1, 1) := by decide +kernel
theorem dX11_load_100 : decode cX11_load 100 = .ok (.goto 4, 3) := by decide +kernel
theorem dX11_load_103 : decode cX11_load 103 = .ok (.iconst 0, 1) := by decide +kernel
theorem dX11_load_104 : decode cX11_load 104 = .ok (.istore_n 1, 1) := by decide +kernel
theorem dX11_load_105 : decode cX11_load 105 = .ok (.goto (-31), 3) := by decide +kernel
theorem dX11_load_108 : decode cX11_load 108 = .ok (.aload_n 0, 1) := by decide +kernel
theorem dX11_load_109 : decode cX11_load 109 = .ok (.iconst 0, 1) := by decide +kernel
theorem dX11_load_110 : decode cX11_load 110 = .ok (.putfield 240, 3) := by decide +kernel
theorem dX11_load_113 : decode cX11_load 113 = .ok (.iload_n 1, 1) := by decide +kernel
theorem dX11_load_114 : decode cX11_load 114 = .ok (.ifCond .ne 5, 3) := by decide +kernel
theorem dX11_load_117 : decode cX11_load 117 = .ok (.iconst (-1), 1) := by decide +kernel
theorem dX11_load_118 : decode cX11_load 118 = .ok (.ireturn, 1) := by decide +kernel
theorem dX11_load_119 : decode cX11_load 119 = .ok (.aload_n 0, 1) := by decide +kernel
theorem dX11_load_120 : decode cX11_load 120 = .ok (.getfield 13, 3) := by decide +kernel
theorem dX11_load_123 : decode cX11_load 123 = .ok (.iconst 0, 1) := by decide +kernel
theorem dX11_load_124 : decode cX11_load 124 = .ok (.aload_n 0, 1) := by decide +kernel
theorem dX11_load_125 : decode cX11_load 125 = .ok (.getfield 7, 3) := by decide +kernel
theorem dX11_load_128 : decode cX11_load 128 = .ok (.iconst 0, 1) := by decide +kernel
theorem dX11_load_129 : decode cX11_load 129 = .ok (.invokestatic 200, 3) := by decide +kernel
theorem dX11_load_132 : decode cX11_load 132 = .ok (.aload_n 0, 1) := by decide +kernel
theorem dX11_load_133 : decode cX11_load 133 = .ok (.iconst 0, 1) := by decide +kernel
theorem dX11_load_134 : decode cX11_load 134 = .ok (.putfield 176, 3) := by decide +kernel
theorem dX11_load_137 : decode cX11_load 137 = .ok (.aload_n 0, 1) := by decide +kernel
theorem dX11_load_138 : decode cX11_load 138 = .ok (.invokevirtual 53, 3) := by decide +kernel
theorem dX11_load_141 : decode cX11_load 141 = .ok (.ireturn, 1) := by decide +kernel
theorem dX11_commandHere_0 : decode cX11_commandHere 0 = .ok (.aload_n 0, 1) := by decide +kernel
theorem dX11_commandHere_1 : decode cX11_commandHere 1 = .ok (.ldc_w 369, 3) := by decide +kernel
theorem dX11_commandHere_4 : decode cX11_commandHere 4 = .ok (.invokevirtual 301, 3) := by decide +kernel
theorem dX11_commandHere_7 : decode cX11_commandHere 7 = .ok (.ifCond .eq 7, 3) := by decide +kernel
theorem dX11_commandHere_10 : decode cX11_commandHere 10 = .ok (.iconst 0, 1) := by decide +kernel
theorem dX11_commandHere_11 : decode cX11_commandHere 11 = .ok (.goto 74, 3) := by decide +kernel
theorem dX11_commandHere_14 : decode cX11_commandHere 14 = .ok (.aload_n 0, 1) := by decide +kernel
theorem dX11_commandHere_15 : decode cX11_commandHere 15 = .ok (.ldc_w 371, 3) := by decide +kernel
theorem dX11_commandHere_18 : decode cX11_commandHere 18 = .ok (.invokevirtual 301, 3) := by decide +kernel
theorem dX11_commandHere_21 : decode cX11_commandHere 21 = .ok (.ifCond .eq 7, 3) := by decide +kernel
theorem dX11_commandHere_24 : decode cX11_commandHere 24 = .ok (.iconst 1, 1) := by decide +kernel
theorem dX11_commandHere_25 : decode cX11_commandHere 25 = .ok (.goto 60, 3) := by decide +kernel
theorem dX11_commandHere_28 : decode cX11_commandHere 28 = .ok (.aload_n 0, 1) := by decide +kernel
theorem dX11_commandHere_29 : decode cX11_commandHere 29 = .ok (.ldc_w 373, 3) := by decide +kernel
theorem dX11_commandHere_32 : decode cX11_commandHere 32 = .ok (.invokevirtual 301, 3) := by decide +kernel
theorem dX11_commandHere_35 : decode cX11_commandHere 35 = .ok (.ifCond .eq 7, 3) := by decide +kernel
theorem dX11_commandHere_38 : decode cX11_commandHere 38 = .ok (.iconst 2, 1) := by decide +kernel
theorem dX11_commandHere_39 : decode cX11_commandHere 39 = .ok (.goto 46, 3) := by decide +kernel
theorem dX11_commandHere_42 : decode cX11_commandHere 42 = .ok (.aload_n 0, 1) := by decide +kernel
theorem dX11_commandHere_43 : decode cX11_commandHere 43 = .ok (.ldc_w 336, 3) := by decide +kernel
theorem dX11_commandHere_46 : decode cX11_commandHere 46 = .ok (.invokevirtual 301, 3) := by decide +kernel
theorem dX11_commandHere_49 : decode cX11_commandHere 49 = .ok (.ifCond .eq 7, 3) := by decide +kernel
theorem dX11_commandHere_52 : decode cX11_commandHere 52 = .ok (.iconst 3, 1) := by decide +kernel
theorem dX11_commandHere_53 : decode cX11_commandHere 53 = .ok (.goto 32, 3) := by decide +kernel
theorem dX11_commandHere_56 : decode cX11_commandHere 56 = .ok (.aload_n 0, 1) := by decide +kernel
theorem dX11_commandHere_57 : decode cX11_commandHere 57 = .ok (.ldc_w 375, 3) := by decide +kernel
theorem dX11_commandHere_60 : decode cX11_commandHere 60 = .ok (.invokevirtual 301, 3) := by decide +kernel
theorem dX11_commandHere_63 : decode cX11_commandHere 63 = .ok (.ifCond .eq 7, 3) := by decide +kernel
theorem dX11_commandHere_66 : decode cX11_commandHere 66 = .ok (.iconst 4, 1) := by decide +kernel
theorem dX11_commandHere_67 : decode cX11_commandHere 67 = .ok (.goto 18, 3) := by decide +kernel
theorem dX11_commandHere_70 : decode cX11_commandHere 70 = .ok (.aload_n 0, 1) := by decide +kernel
theorem dX11_commandHere_71 : decode cX11_commandHere 71 = .ok (.ldc_w 377, 3) := by decide +kernel
theorem dX11_commandHere_74 : decode cX11_commandHere 74 = .ok (.invokevirtual 301, 3) := by decide +kernel
theorem dX11_commandHere_77 : decode cX11_commandHere 77 = .ok (.ifCond .eq 7, 3) := by decide +kernel
theorem dX11_commandHere_80 : decode cX11_commandHere 80 = .ok (.iconst 5, 1) := by decide +kernel
theorem dX11_commandHere_81 : decode cX11_commandHere 81 = .ok (.goto 4, 3) := by decide +kernel
theorem dX11_commandHere_84 : decode cX11_commandHere 84 = .ok (.iconst (-1), 1) := by decide +kernel
theorem dX11_commandHere_85 : decode cX11_commandHere 85 = .ok (.ireturn, 1) := by decide +kernel
theorem dX11_readCommand_0 : decode cX11_readCommand 0 = .ok (.aload_n 0, 1) := by decide +kernel
theorem dX11_readCommand_1 : decode cX11_readCommand 1 = .ok (.invokevirtual 379, 3) := by decide +kernel
theorem dX11_readCommand_4 : decode cX11_readCommand 4 = .ok (.istore_n 1, 1) := by decide +kernel
theorem dX11_readCommand_5 : decode cX11_readCommand 5 = .ok (.iload_n 1, 1) := by decide +kernel
theorem dX11_readCommand_6 : decode cX11_readCommand 6 = .ok (.iconst (-1), 1) := by decide +kernel
theorem dX11_readCommand_7 : decode cX11_readCommand 7 = .ok (.if_icmp .ne 9, 3) := by decide +kernel
theorem dX11_readCommand_10 : decode cX11_readCommand 10 = .ok (.aload_n 0, 1) := by decide +kernel
theorem dX11_readCommand_11 : decode cX11_readCommand 11 = .ok (.iconst 1, 1) := by decide +kernel
theorem dX11_readCommand_12 : decode cX11_readCommand 12 = .ok (.invokevirtual 282, 3) := by decide +kernel
theorem dX11_readCommand_15 : decode cX11_readCommand 15 = .ok (.ireturn, 1) := by decide +kernel
theorem dX11_readCommand_16 : decode cX11_readCommand 16 = .ok (.aload_n 0, 1) := by decide +kernel
theorem dX11_readCommand_17 : decode cX11_readCommand 17 = .ok (.iconst 4, 1) := by decide +kernel
theorem dX11_readCommand_18 : decode cX11_readCommand 18 = .ok (.aload_n 0, 1) := by decide +kernel
theorem dX11_readCommand_19 : decode cX11_readCommand 19 = .ok (.getfield 382, 3) := by decide +kernel
theorem dX11_readCommand_22 : decode cX11_readCommand 22 = .ok (.bipush 40, 2) := by decide +kernel
theorem dX11_readCommand_24 : decode cX11_readCommand 24 = .ok (.if_icmp .ge 7, 3) := by decide +kernel
theorem dX11_readCommand_27 : decode cX11_readCommand 27 = .ok (.iconst 1, 1) := by decide +kernel
theorem dX11_readCommand_28 : decode cX11_readCommand 28 = .ok (.goto 4, 3) := by decide +kernel
theorem dX11_readCommand_31 : decode cX11_readCommand 31 = .ok (.iconst 0, 1) := by decide +kernel
theorem dX11_readCommand_32 : decode cX11_readCommand 32 = .ok (.invokevirtual 294, 3) := by decide +kernel
theorem dX11_readCommand_35 : decode cX11_readCommand 35 = .ok (.ifCond .ne 5, 3) := by decide +kernel
theorem dX11_readCommand_38 : decode cX11_readCommand 38 = .ok (.iconst 0, 1) := by decide +kernel
theorem dX11_readCommand_39 : decode cX11_readCommand 39 = .ok (.ireturn, 1) := by decide +kernel
theorem dX11_readCommand_40 : decode cX11_readCommand 40 = .ok (.aload_n 0, 1) := by decide +kernel
theorem dX11_readCommand_41 : decode cX11_readCommand 41 = .ok (.iconst 0, 1) := by decide +kernel
theorem dX11_readCommand_42 : decode cX11_readCommand 42 = .ok (.putfield 288, 3) := by decide +kernel
theorem dX11_readCommand_45 : decode cX11_readCommand 45 = .ok (.iload_n 1, 1) := by decide +kernel
theorem dX11_readCommand_46 : decode cX11_readCommand 46 = .ok (.iconst 3, 1) := by decide +kernel
theorem dX11_readCommand_47 : decode cX11_readCommand 47 = .ok (.if_icmp .eq 96, 3) := by decide +kernel
theorem dX11_readCommand_50 : decode cX11_readCommand 50 = .ok (.iload_n 1, 1) := by decide +kernel
theorem dX11_readCommand_51 : decode cX11_readCommand 51 = .ok (.ifCond .ne 17, 3) := by decide +kernel
theorem dX11_readCommand_54 : decode cX11_readCommand 54 = .ok (.aload_n 0, 1) := by decide +kernel
theorem dX11_readCommand_55 : decode cX11_readCommand 55 = .ok (.iconst 1, 1) := by decide +kernel
theorem dX11_readCommand_56 : decode cX11_readCommand 56 = .ok (.sipush 200, 3) := by decide +kernel
theorem dX11_readCommand_59 : decode cX11_readCommand 59 = .ok (.invokevirtual 305, 3) := by decide +kernel
theorem dX11_readCommand_62 : decode cX11_readCommand 62 = .ok (.ifCond .eq 85, 3) := by decide +kernel
theorem dX11_readCommand_65 : decode cX11_readCommand 65 = .ok (.goto 78, 3) := by decide +kernel
theorem dX11_readCommand_68 : decode cX11_readCommand 68 = .ok (.iload_n 1, 1) := by decide +kernel
theorem dX11_readCommand_69 : decode cX11_readCommand 69 = .ok (.iconst 1, 1) := by decide +kernel
theorem dX11_readCommand_70 : decode cX11_readCommand 70 = .ok (.if_icmp .ne 17, 3) := by decide +kernel
theorem dX11_readCommand_73 : decode cX11_readCommand 73 = .ok (.aload_n 0, 1) := by decide +kernel
theorem dX11_readCommand_74 : decode cX11_readCommand 74 = .ok (.iconst 0, 1) := by decide +kernel
theorem dX11_readCommand_75 : decode cX11_readCommand 75 = .ok (.sipush 30000, 3) := by decide +kernel
theorem dX11_readCommand_78 : decode cX11_readCommand 78 = .ok (.invokevirtual 305, 3) := by decide +kernel
theorem dX11_readCommand_81 : decode cX11_readCommand 81 = .ok (.ifCond .eq 66, 3) := by decide +kernel
theorem dX11_readCommand_84 : decode cX11_readCommand 84 = .ok (.goto 59, 3) := by decide +kernel
theorem dX11_readCommand_87 : decode cX11_readCommand 87 = .ok (.iload_n 1, 1) := by decide +kernel
theorem dX11_readCommand_88 : decode cX11_readCommand 88 = .ok (.iconst 2, 1) := by decide +kernel
theorem dX11_readCommand_89 : decode cX11_readCommand 89 = .ok (.if_icmp .ne 23, 3) := by decide +kernel
theorem dX11_readCommand_92 : decode cX11_readCommand 92 = .ok (.aload_n 0, 1) := by decide +kernel
theorem dX11_readCommand_93 : decode cX11_readCommand 93 = .ok (.iconst 0, 1) := by decide +kernel
theorem dX11_readCommand_94 : decode cX11_readCommand 94 = .ok (.aload_n 0, 1) := by decide +kernel
theorem dX11_readCommand_95 : decode cX11_readCommand 95 = .ok (.getfield 7, 3) := by decide +kernel
theorem dX11_readCommand_98 : decode cX11_readCommand 98 = .ok (.bipush 8, 2) := by decide +kernel
theorem dX11_readCommand_100 : decode cX11_readCommand 100 = .ok (.iaload, 1) := by decide +kernel
theorem dX11_readCommand_101 : decode cX11_readCommand 101 = .ok (.iconst 1, 1) := by decide +kernel
theorem dX11_readCommand_102 : decode cX11_readCommand 102 = .ok (.isub, 1) := by decide +kernel
theorem dX11_readCommand_103 : decode cX11_readCommand 103 = .ok (.invokevirtual 305, 3) := by decide +kernel
theorem dX11_readCommand_106 : decode cX11_readCommand 106 = .ok (.ifCond .eq 41, 3) := by decide +kernel
theorem dX11_readCommand_109 : decode cX11_readCommand 109 = .ok (.goto 34, 3) := by decide +kernel
theorem dX11_readCommand_112 : decode cX11_readCommand 112 = .ok (.iload_n 1, 1) := by decide +kernel
theorem dX11_readCommand_113 : decode cX11_readCommand 113 = .ok (.iconst 4, 1) := by decide +kernel
theorem dX11_readCommand_114 : decode cX11_readCommand 114 = .ok (.if_icmp .ne 20, 3) := by decide +kernel
theorem dX11_readCommand_117 : decode cX11_readCommand 117 = .ok (.aload_n 0, 1) := by decide +kernel
theorem dX11_readCommand_118 : decode cX11_readCommand 118 = .ok (.iconst 0, 1) := by decide +kernel
theorem dX11_readCommand_119 : decode cX11_readCommand 119 = .ok (.aload_n 0, 1) := by decide +kernel
theorem dX11_readCommand_120 : decode cX11_readCommand 120 = .ok (.invokevirtual 53, 3) := by decide +kernel
theorem dX11_readCommand_123 : decode cX11_readCommand 123 = .ok (.iconst 1, 1) := by decide +kernel
theorem dX11_readCommand_124 : decode cX11_readCommand 124 = .ok (.isub, 1) := by decide +kernel
theorem dX11_readCommand_125 : decode cX11_readCommand 125 = .ok (.invokevirtual 305, 3) := by decide +kernel
theorem dX11_readCommand_128 : decode cX11_readCommand 128 = .ok (.ifCond .eq 19, 3) := by decide +kernel
theorem dX11_readCommand_131 : decode cX11_readCommand 131 = .ok (.goto 12, 3) := by decide +kernel
theorem dX11_readCommand_134 : decode cX11_readCommand 134 = .ok (.aload_n 0, 1) := by decide +kernel
theorem dX11_readCommand_135 : decode cX11_readCommand 135 = .ok (.bipush 9, 2) := by decide +kernel
theorem dX11_readCommand_137 : decode cX11_readCommand 137 = .ok (.invokevirtual 328, 3) := by decide +kernel
theorem dX11_readCommand_140 : decode cX11_readCommand 140 = .ok (.ifCond .eq 7, 3) := by decide +kernel
theorem dX11_readCommand_143 : decode cX11_readCommand 143 = .ok (.iconst 1, 1) := by decide +kernel
theorem dX11_readCommand_144 : decode cX11_readCommand 144 = .ok (.goto 4, 3) := by decide +kernel
theorem dX11_readCommand_147 : decode cX11_readCommand 147 = .ok (.iconst 0, 1) := by decide +kernel
theorem dX11_readCommand_148 : decode cX11_readCommand 148 = .ok (.istore_n 2, 1) := by decide +kernel
theorem dX11_readCommand_149 : decode cX11_readCommand 149 = .ok (.iload_n 2, 1) := by decide +kernel
theorem dX11_readCommand_150 : decode cX11_readCommand 150 = .ok (.ifCond .ne 5, 3) := by decide +kernel
theorem dX11_readCommand_153 : decode cX11_readCommand 153 = .ok (.iconst 0, 1) := by decide +kernel
theorem dX11_readCommand_154 : decode cX11_readCommand 154 = .ok (.ireturn, 1) := by decide +kernel
theorem dX11_readCommand_155 : decode cX11_readCommand 155 = .ok (.aload_n 0, 1) := by decide +kernel
theorem dX11_readCommand_156 : decode cX11_readCommand 156 = .ok (.getfield 40, 3) := by decide +kernel
theorem dX11_readCommand_159 : decode cX11_readCommand 159 = .ok (.iconst 2, 1) := by decide +kernel
theorem dX11_readCommand_160 : decode cX11_readCommand 160 = .ok (.aload_n 0, 1) := by decide +kernel
theorem dX11_readCommand_161 : decode cX11_readCommand 161 = .ok (.getfield 382, 3) := by decide +kernel
theorem dX11_readCommand_164 : decode cX11_readCommand 164 = .ok (.imul, 1) := by decide +kernel
theorem dX11_readCommand_165 : decode cX11_readCommand 165 = .ok (.iload_n 1, 1) := by decide +kernel
theorem dX11_readCommand_166 : decode cX11_readCommand 166 = .ok (.iastore, 1) := by decide +kernel
theorem dX11_readCommand_167 : decode cX11_readCommand 167 = .ok (.aload_n 0, 1) := by decide +kernel
theorem dX11_readCommand_168 : decode cX11_readCommand 168 = .ok (.getfield 40, 3) := by decide +kernel
theorem dX11_readCommand_171 : decode cX11_readCommand 171 = .ok (.iconst 2, 1) := by decide +kernel
theorem dX11_readCommand_172 : decode cX11_readCommand 172 = .ok (.aload_n 0, 1) := by decide +kernel
theorem dX11_readCommand_173 : decode cX11_readCommand 173 = .ok (.getfield 382, 3) := by decide +kernel
theorem dX11_readCommand_176 : decode cX11_readCommand 176 = .ok (.imul, 1) := by decide +kernel
theorem dX11_readCommand_177 : decode cX11_readCommand 177 = .ok (.iconst 1, 1) := by decide +kernel
theorem dX11_readCommand_178 : decode cX11_readCommand 178 = .ok (.iadd, 1) := by decide +kernel
theorem dX11_readCommand_179 : decode cX11_readCommand 179 = .ok (.aload_n 0, 1) := by decide +kernel
theorem dX11_readCommand_180 : decode cX11_readCommand 180 = .ok (.getfield 288, 3) := by decide +kernel
theorem dX11_readCommand_183 : decode cX11_readCommand 183 = .ok (.iastore, 1) := by decide +kernel
theorem dX11_readCommand_184 : decode cX11_readCommand 184 = .ok (.aload_n 0, 1) := by decide +kernel
theorem dX11_readCommand_185 : decode cX11_readCommand 185 = .ok (.dup, 1) := by decide +kernel
theorem dX11_readCommand_186 : decode cX11_readCommand 186 = .ok (.getfield 382, 3) := by decide +kernel
theorem dX11_readCommand_189 : decode cX11_readCommand 189 = .ok (.iconst 1, 1) := by decide +kernel
theorem dX11_readCommand_190 : decode cX11_readCommand 190 = .ok (.iadd, 1) := by decide +kernel
theorem dX11_readCommand_191 : decode cX11_readCommand 191 = .ok (.putfield 382, 3) := by decide +kernel
theorem dX11_readCommand_194 : decode cX11_readCommand 194 = .ok (.iconst 1, 1) := by decide +kernel
theorem dX11_readCommand_195 : decode cX11_readCommand 195 = .ok (.ireturn, 1) := by decide +kernel
theorem dX11_does_0 : decode cX11_does 0 = .ok (.iload_n 1, 1) := by decide +kernel
theorem dX11_does_1 : decode cX11_does 1 = .ok (.tableswitch 64 0 4 #[35, 41, 47, 53, 58], 35) := by decide +kernel
theorem dX11_does_36 : decode cX11_does 36 = .ok (.aload_n 0, 1) := by decide +kernel
theorem dX11_does_37 : decode cX11_does 37 = .ok (.iload_n 2, 1) := by decide +kernel
theorem dX11_does_38 : decode cX11_does 38 = .ok (.invokevirtual 225, 3) := by decide +kernel
theorem dX11_does_41 : decode cX11_does 41 = .ok (.ireturn, 1) := by decide +kernel
theorem dX11_does_42 : decode cX11_does 42 = .ok (.aload_n 0, 1) := by decide +kernel
theorem dX11_does_43 : decode cX11_does 43 = .ok (.iload_n 2, 1) := by decide +kernel
theorem dX11_does_44 : decode cX11_does 44 = .ok (.invokevirtual 228, 3) := by decide +kernel
theorem dX11_does_47 : decode cX11_does 47 = .ok (.ireturn, 1) := by decide +kernel
theorem dX11_does_48 : decode cX11_does 48 = .ok (.aload_n 0, 1) := by decide +kernel
theorem dX11_does_49 : decode cX11_does 49 = .ok (.iload_n 2, 1) := by decide +kernel
theorem dX11_does_50 : decode cX11_does 50 = .ok (.invokevirtual 231, 3) := by decide +kernel
theorem dX11_does_53 : decode cX11_does 53 = .ok (.ireturn, 1) := by decide +kernel
theorem dX11_does_54 : decode cX11_does 54 = .ok (.aload_n 0, 1) := by decide +kernel
theorem dX11_does_55 : decode cX11_does 55 = .ok (.invokevirtual 385, 3) := by decide +kernel
theorem dX11_does_58 : decode cX11_does 58 = .ok (.ireturn, 1) := by decide +kernel
theorem dX11_does_59 : decode cX11_does 59 = .ok (.aload_n 0, 1) := by decide +kernel
theorem dX11_does_60 : decode cX11_does 60 = .ok (.iload_n 2, 1) := by decide +kernel
theorem dX11_does_61 : decode cX11_does 61 = .ok (.invokevirtual 234, 3) := by decide +kernel
theorem dX11_does_64 : decode cX11_does 64 = .ok (.ireturn, 1) := by decide +kernel
theorem dX11_does_65 : decode cX11_does 65 = .ok (.aload_n 0, 1) := by decide +kernel
theorem dX11_does_66 : decode cX11_does 66 = .ok (.iload_n 2, 1) := by decide +kernel
theorem dX11_does_67 : decode cX11_does 67 = .ok (.invokevirtual 237, 3) := by decide +kernel
theorem dX11_does_70 : decode cX11_does 70 = .ok (.ireturn, 1) := by decide +kernel
theorem dX11_play_0 : decode cX11_play 0 = .ok (.aload_n 0, 1) := by decide +kernel
theorem dX11_play_1 : decode cX11_play 1 = .ok (.iconst 0, 1) := by decide +kernel
theorem dX11_play_2 : decode cX11_play 2 = .ok (.putfield 50, 3) := by decide +kernel
theorem dX11_play_5 : decode cX11_play 5 = .ok (.aload_n 0, 1) := by decide +kernel
theorem dX11_play_6 : decode cX11_play 6 = .ok (.invokevirtual 358, 3) := by decide +kernel
theorem dX11_play_9 : decode cX11_play 9 = .ok (.aload_n 0, 1) := by decide +kernel
theorem dX11_play_10 : decode cX11_play 10 = .ok (.iconst 0, 1) := by decide +kernel
theorem dX11_play_11 : decode cX11_play 11 = .ok (.putfield 382, 3) := by decide +kernel
theorem dX11_play_14 : decode cX11_play 14 = .ok (.iconst 1, 1) := by decide +kernel
theorem dX11_play_15 : decode cX11_play 15 = .ok (.istore_n 1, 1) := by decide +kernel
theorem dX11_play_16 : decode cX11_play 16 = .ok (.iload_n 1, 1) := by decide +kernel
theorem dX11_play_17 : decode cX11_play 17 = .ok (.ifCond .eq 33, 3) := by decide +kernel
theorem dX11_play_20 : decode cX11_play 20 = .ok (.aload_n 0, 1) := by decide +kernel
theorem dX11_play_21 : decode cX11_play 21 = .ok (.getfield 261, 3) := by decide +kernel
theorem dX11_play_24 : decode cX11_play 24 = .ok (.ifCond .eq 26, 3) := by decide +kernel
theorem dX11_play_27 : decode cX11_play 27 = .ok (.aload_n 0, 1) := by decide +kernel
theorem dX11_play_28 : decode cX11_play 28 = .ok (.invokevirtual 388, 3) := by decide +kernel
theorem dX11_play_31 : decode cX11_play 31 = .ok (.ifCond .eq 14, 3) := by decide +kernel
theorem dX11_play_34 : decode cX11_play 34 = .ok (.aload_n 0, 1) := by decide +kernel
theorem dX11_play_35 : decode cX11_play 35 = .ok (.invokevirtual 363, 3) := by decide +kernel
theorem dX11_play_38 : decode cX11_play 38 = .ok (.ifCond .eq 7, 3) := by decide +kernel
theorem dX11_play_41 : decode cX11_play 41 = .ok (.iconst 1, 1) := by decide +kernel
theorem dX11_play_42 : decode cX11_play 42 = .ok (.goto 4, 3) := by decide +kernel
theorem dX11_play_45 : decode cX11_play 45 = .ok (.iconst 0, 1) := by decide +kernel
theorem dX11_play_46 : decode cX11_play 46 = .ok (.istore_n 1, 1) := by decide +kernel
theorem dX11_play_47 : decode cX11_play 47 = .ok (.goto (-31), 3) := by decide +kernel
theorem dX11_play_50 : decode cX11_play 50 = .ok (.aload_n 0, 1) := by decide +kernel
theorem dX11_play_51 : decode cX11_play 51 = .ok (.iconst 0, 1) := by decide +kernel
theorem dX11_play_52 : decode cX11_play 52 = .ok (.putfield 240, 3) := by decide +kernel
theorem dX11_play_55 : decode cX11_play 55 = .ok (.iload_n 1, 1) := by decide +kernel
theorem dX11_play_56 : decode cX11_play 56 = .ok (.ifCond .ne 5, 3) := by decide +kernel
theorem dX11_play_59 : decode cX11_play 59 = .ok (.iconst (-1), 1) := by decide +kernel
theorem dX11_play_60 : decode cX11_play 60 = .ok (.ireturn, 1) := by decide +kernel
theorem dX11_play_61 : decode cX11_play 61 = .ok (.iconst 0, 1) := by decide +kernel
theorem dX11_play_62 : decode cX11_play 62 = .ok (.istore_n 2, 1) := by decide +kernel
theorem dX11_play_63 : decode cX11_play 63 = .ok (.iload_n 2, 1) := by decide +kernel
theorem dX11_play_64 : decode cX11_play 64 = .ok (.aload_n 0, 1) := by decide +kernel
theorem dX11_play_65 : decode cX11_play 65 = .ok (.getfield 382, 3) := by decide +kernel
theorem dX11_play_68 : decode cX11_play 68 = .ok (.if_icmp .ge 34, 3) := by decide +kernel
theorem dX11_play_71 : decode cX11_play 71 = .ok (.aload_n 0, 1) := by decide +kernel
theorem dX11_play_72 : decode cX11_play 72 = .ok (.aload_n 0, 1) := by decide +kernel
theorem dX11_play_73 : decode cX11_play 73 = .ok (.getfield 40, 3) := by decide +kernel
theorem dX11_play_76 : decode cX11_play 76 = .ok (.iconst 2, 1) := by decide +kernel
theorem dX11_play_77 : decode cX11_play 77 = .ok (.iload_n 2, 1) := by decide +kernel
theorem dX11_play_78 : decode cX11_play 78 = .ok (.imul, 1) := by decide +kernel
theorem dX11_play_79 : decode cX11_play 79 = .ok (.iaload, 1) := by decide +kernel
theorem dX11_play_80 : decode cX11_play 80 = .ok (.aload_n 0, 1) := by decide +kernel
theorem dX11_play_81 : decode cX11_play 81 = .ok (.getfield 40, 3) := by decide +kernel
theorem dX11_play_84 : decode cX11_play 84 = .ok (.iconst 2, 1) := by decide +kernel
theorem dX11_play_85 : decode cX11_play 85 = .ok (.iload_n 2, 1) := by decide +kernel
theorem dX11_play_86 : decode cX11_play 86 = .ok (.imul, 1) := by decide +kernel
theorem dX11_play_87 : decode cX11_play 87 = .ok (.iconst 1, 1) := by decide +kernel
theorem dX11_play_88 : decode cX11_play 88 = .ok (.iadd, 1) := by decide +kernel
theorem dX11_play_89 : decode cX11_play 89 = .ok (.iaload, 1) := by decide +kernel
theorem dX11_play_90 : decode cX11_play 90 = .ok (.invokevirtual 391, 3) := by decide +kernel
theorem dX11_play_93 : decode cX11_play 93 = .ok (.ifCond .lt 9, 3) := by decide +kernel
theorem dX11_play_96 : decode cX11_play 96 = .ok (.iinc 2 1, 3) := by decide +kernel
theorem dX11_play_99 : decode cX11_play 99 = .ok (.goto (-36), 3) := by decide +kernel
theorem dX11_play_102 : decode cX11_play 102 = .ok (.iload_n 2, 1) := by decide +kernel
theorem dX11_play_103 : decode cX11_play 103 = .ok (.ireturn, 1) := by decide +kernel
theorem dX11_writes_0 : decode cX11_writes 0 = .ok (.aload_n 0, 1) := by decide +kernel
theorem dX11_writes_1 : decode cX11_writes 1 = .ok (.getfield 43, 3) := by decide +kernel
theorem dX11_writes_4 : decode cX11_writes 4 = .ok (.aload_n 0, 1) := by decide +kernel
theorem dX11_writes_5 : decode cX11_writes 5 = .ok (.getfield 394, 3) := by decide +kernel
theorem dX11_writes_8 : decode cX11_writes 8 = .ok (.iload_n 1, 1) := by decide +kernel
theorem dX11_writes_9 : decode cX11_writes 9 = .ok (.iastore, 1) := by decide +kernel
theorem dX11_writes_10 : decode cX11_writes 10 = .ok (.aload_n 0, 1) := by decide +kernel
theorem dX11_writes_11 : decode cX11_writes 11 = .ok (.dup, 1) := by decide +kernel
theorem dX11_writes_12 : decode cX11_writes 12 = .ok (.getfield 394, 3) := by decide +kernel
theorem dX11_writes_15 : decode cX11_writes 15 = .ok (.iconst 1, 1) := by decide +kernel
theorem dX11_writes_16 : decode cX11_writes 16 = .ok (.iadd, 1) := by decide +kernel
theorem dX11_writes_17 : decode cX11_writes 17 = .ok (.putfield 394, 3) := by decide +kernel
theorem dX11_writes_20 : decode cX11_writes 20 = .ok (.return_, 1) := by decide +kernel
theorem dX11_writesChute_0 : decode cX11_writesChute 0 = .ok (.aload_n 0, 1) := by decide +kernel
theorem dX11_writesChute_1 : decode cX11_writesChute 1 = .ok (.getfield 7, 3) := by decide +kernel
theorem dX11_writesChute_4 : decode cX11_writesChute 4 = .ok (.bipush 65, 2) := by decide +kernel
theorem dX11_writesChute_6 : decode cX11_writesChute 6 = .ok (.iload_n 1, 1) := by decide +kernel
theorem dX11_writesChute_7 : decode cX11_writesChute 7 = .ok (.iadd, 1) := by decide +kernel
theorem dX11_writesChute_8 : decode cX11_writesChute 8 = .ok (.iaload, 1) := by decide +kernel
theorem dX11_writesChute_9 : decode cX11_writesChute 9 = .ok (.istore_n 2, 1) := by decide +kernel
theorem dX11_writesChute_10 : decode cX11_writesChute 10 = .ok (.iload_n 1, 1) := by decide +kernel
theorem dX11_writesChute_11 : decode cX11_writesChute 11 = .ok (.bipush 8, 2) := by decide +kernel
theorem dX11_writesChute_13 : decode cX11_writesChute 13 = .ok (.if_icmp .ne 9, 3) := by decide +kernel
theorem dX11_writesChute_16 : decode cX11_writesChute 16 = .ok (.aload_n 0, 1) := by decide +kernel
theorem dX11_writesChute_17 : decode cX11_writesChute 17 = .ok (.bipush 82, 2) := by decide +kernel
theorem dX11_writesChute_19 : decode cX11_writesChute 19 = .ok (.invokevirtual 397, 3) := by decide +kernel
theorem dX11_writesChute_22 : decode cX11_writesChute 22 = .ok (.aload_n 0, 1) := by decide +kernel
theorem dX11_writesChute_23 : decode cX11_writesChute 23 = .ok (.iload_n 2, 1) := by decide +kernel
theorem dX11_writesChute_24 : decode cX11_writesChute 24 = .ok (.ifCond .ne 8, 3) := by decide +kernel
theorem dX11_writesChute_27 : decode cX11_writesChute 27 = .ok (.bipush 80, 2) := by decide +kernel
theorem dX11_writesChute_29 : decode cX11_writesChute 29 = .ok (.goto 35, 3) := by decide +kernel
theorem dX11_writesChute_32 : decode cX11_writesChute 32 = .ok (.iload_n 2, 1) := by decide +kernel
theorem dX11_writesChute_33 : decode cX11_writesChute 33 = .ok (.iconst 1, 1) := by decide +kernel
theorem dX11_writesChute_34 : decode cX11_writesChute 34 = .ok (.if_icmp .ne 8, 3) := by decide +kernel
theorem dX11_writesChute_37 : decode cX11_writesChute 37 = .ok (.bipush 79, 2) := by decide +kernel
theorem dX11_writesChute_39 : decode cX11_writesChute 39 = .ok (.goto 25, 3) := by decide +kernel
theorem dX11_writesChute_42 : decode cX11_writesChute 42 = .ok (.iload_n 2, 1) := by decide +kernel
theorem dX11_writesChute_43 : decode cX11_writesChute 43 = .ok (.iconst 2, 1) := by decide +kernel
theorem dX11_writesChute_44 : decode cX11_writesChute 44 = .ok (.if_icmp .ne 8, 3) := by decide +kernel
theorem dX11_writesChute_47 : decode cX11_writesChute 47 = .ok (.bipush 84, 2) := by decide +kernel
theorem dX11_writesChute_49 : decode cX11_writesChute 49 = .ok (.goto 15, 3) := by decide +kernel
theorem dX11_writesChute_52 : decode cX11_writesChute 52 = .ok (.iload_n 2, 1) := by decide +kernel
theorem dX11_writesChute_53 : decode cX11_writesChute 53 = .ok (.iconst 3, 1) := by decide +kernel
theorem dX11_writesChute_54 : decode cX11_writesChute 54 = .ok (.if_icmp .ne 8, 3) := by decide +kernel
theorem dX11_writesChute_57 : decode cX11_writesChute 57 = .ok (.bipush 74, 2) := by decide +kernel
theorem dX11_writesChute_59 : decode cX11_writesChute 59 = .ok (.goto 5, 3) := by decide +kernel
theorem dX11_writesChute_62 : decode cX11_writesChute 62 = .ok (.bipush 67, 2) := by decide +kernel
theorem dX11_writesChute_64 : decode cX11_writesChute 64 = .ok (.invokevirtual 397, 3) := by decide +kernel
theorem dX11_writesChute_67 : decode cX11_writesChute 67 = .ok (.iload_n 2, 1) := by decide +kernel
theorem dX11_writesChute_68 : decode cX11_writesChute 68 = .ok (.ifCond .eq 9, 3) := by decide +kernel
theorem dX11_writesChute_71 : decode cX11_writesChute 71 = .ok (.iload_n 2, 1) := by decide +kernel
theorem dX11_writesChute_72 : decode cX11_writesChute 72 = .ok (.iconst 1, 1) := by decide +kernel
theorem dX11_writesChute_73 : decode cX11_writesChute 73 = .ok (.if_icmp .eq 4, 3) := by decide +kernel
theorem dX11_writesChute_76 : decode cX11_writesChute 76 = .ok (.return_, 1) := by decide +kernel
theorem dX11_writesChute_77 : decode cX11_writesChute 77 = .ok (.aload_n 0, 1) := by decide +kernel
theorem dX11_writesChute_78 : decode cX11_writesChute 78 = .ok (.getfield 7, 3) := by decide +kernel
theorem dX11_writesChute_81 : decode cX11_writesChute 81 = .ok (.bipush 74, 2) := by decide +kernel
theorem dX11_writesChute_83 : decode cX11_writesChute 83 = .ok (.iload_n 1, 1) := by decide +kernel
theorem dX11_writesChute_84 : decode cX11_writesChute 84 = .ok (.iadd, 1) := by decide +kernel
theorem dX11_writesChute_85 : decode cX11_writesChute 85 = .ok (.iaload, 1) := by decide +kernel
theorem dX11_writesChute_86 : decode cX11_writesChute 86 = .ok (.invokestatic 100, 3) := by decide +kernel
theorem dX11_writesChute_89 : decode cX11_writesChute 89 = .ok (.istore_n 3, 1) := by decide +kernel
theorem dX11_writesChute_90 : decode cX11_writesChute 90 = .ok (.iload_n 3, 1) := by decide +kernel
theorem dX11_writesChute_91 : decode cX11_writesChute 91 = .ok (.bipush 9, 2) := by decide +kernel
theorem dX11_writesChute_93 : decode cX11_writesChute 93 = .ok (.if_icmp .le 9, 3) := by decide +kernel
theorem dX11_writesChute_96 : decode cX11_writesChute 96 = .ok (.aload_n 0, 1) := by decide +kernel
theorem dX11_writesChute_97 : decode cX11_writesChute 97 = .ok (.bipush 49, 2) := by decide +kernel
theorem dX11_writesChute_99 : decode cX11_writesChute 99 = .ok (.invokevirtual 397, 3) := by decide +kernel
theorem dX11_writesChute_102 : decode cX11_writesChute 102 = .ok (.aload_n 0, 1) := by decide +kernel
theorem dX11_writesChute_103 : decode cX11_writesChute 103 = .ok (.bipush 48, 2) := by decide +kernel
theorem dX11_writesChute_105 : decode cX11_writesChute 105 = .ok (.iload_n 3, 1) := by decide +kernel
theorem dX11_writesChute_106 : decode cX11_writesChute 106 = .ok (.bipush 10, 2) := by decide +kernel
theorem dX11_writesChute_108 : decode cX11_writesChute 108 = .ok (.irem, 1) := by decide +kernel
theorem dX11_writesChute_109 : decode cX11_writesChute 109 = .ok (.iadd, 1) := by decide +kernel
theorem dX11_writesChute_110 : decode cX11_writesChute 110 = .ok (.invokevirtual 397, 3) := by decide +kernel
theorem dX11_writesChute_113 : decode cX11_writesChute 113 = .ok (.return_, 1) := by decide +kernel
theorem dX11_write_0 : decode cX11_write 0 = .ok (.aload_n 0, 1) := by decide +kernel
theorem dX11_write_1 : decode cX11_write 1 = .ok (.iconst 0, 1) := by decide +kernel
theorem dX11_write_2 : decode cX11_write 2 = .ok (.putfield 50, 3) := by decide +kernel
theorem dX11_write_5 : decode cX11_write 5 = .ok (.aload_n 0, 1) := by decide +kernel
theorem dX11_write_6 : decode cX11_write 6 = .ok (.iconst 0, 1) := by decide +kernel
theorem dX11_write_7 : decode cX11_write 7 = .ok (.putfield 394, 3) := by decide +kernel
theorem dX11_write_10 : decode cX11_write 10 = .ok (.iconst 0, 1) := by decide +kernel
theorem dX11_write_11 : decode cX11_write 11 = .ok (.istore_n 1, 1) := by decide +kernel
theorem dX11_write_12 : decode cX11_write 12 = .ok (.iload_n 1, 1) := by decide +kernel
theorem dX11_write_13 : decode cX11_write 13 = .ok (.aload_n 0, 1) := by decide +kernel
theorem dX11_write_14 : decode cX11_write 14 = .ok (.invokevirtual 53, 3) := by decide +kernel
theorem dX11_write_17 : decode cX11_write 17 = .ok (.if_icmp .ge 28, 3) := by decide +kernel
theorem dX11_write_20 : decode cX11_write 20 = .ok (.iload_n 1, 1) := by decide +kernel
theorem dX11_write_21 : decode cX11_write 21 = .ok (.ifCond .le 9, 3) := by decide +kernel
theorem dX11_write_24 : decode cX11_write 24 = .ok (.aload_n 0, 1) := by decide +kernel
theorem dX11_write_25 : decode cX11_write 25 = .ok (.bipush 32, 2) := by decide +kernel
theorem dX11_write_27 : decode cX11_write 27 = .ok (.invokevirtual 397, 3) := by decide +kernel
theorem dX11_write_30 : decode cX11_write 30 = .ok (.aload_n 0, 1) := by decide +kernel
theorem dX11_write_31 : decode cX11_write 31 = .ok (.aload_n 0, 1) := by decide +kernel
theorem dX11_write_32 : decode cX11_write 32 = .ok (.iload_n 1, 1) := by decide +kernel
theorem dX11_write_33 : decode cX11_write 33 = .ok (.invokevirtual 188, 3) := by decide +kernel
theorem dX11_write_36 : decode cX11_write 36 = .ok (.invokevirtual 400, 3) := by decide +kernel
theorem dX11_write_39 : decode cX11_write 39 = .ok (.iinc 1 1, 3) := by decide +kernel
theorem dX11_write_42 : decode cX11_write 42 = .ok (.goto (-30), 3) := by decide +kernel
theorem dX11_write_45 : decode cX11_write 45 = .ok (.aload_n 0, 1) := by decide +kernel
theorem dX11_write_46 : decode cX11_write 46 = .ok (.getfield 394, 3) := by decide +kernel
theorem dX11_write_49 : decode cX11_write 49 = .ok (.ireturn, 1) := by decide +kernel
theorem dX11_output_0 : decode cX11_output 0 = .ok (.aload_n 0, 1) := by decide +kernel
theorem dX11_output_1 : decode cX11_output 1 = .ok (.iconst 0, 1) := by decide +kernel
theorem dX11_output_2 : decode cX11_output 2 = .ok (.putfield 50, 3) := by decide +kernel
theorem dX11_output_5 : decode cX11_output 5 = .ok (.aload_n 0, 1) := by decide +kernel
theorem dX11_output_6 : decode cX11_output 6 = .ok (.iload_n 1, 1) := by decide +kernel
theorem dX11_output_7 : decode cX11_output 7 = .ok (.iconst 0, 1) := by decide +kernel
theorem dX11_output_8 : decode cX11_output 8 = .ok (.aload_n 0, 1) := by decide +kernel
theorem dX11_output_9 : decode cX11_output 9 = .ok (.getfield 394, 3) := by decide +kernel
theorem dX11_output_12 : decode cX11_output 12 = .ok (.iconst 1, 1) := by decide +kernel
theorem dX11_output_13 : decode cX11_output 13 = .ok (.isub, 1) := by decide +kernel
theorem dX11_output_14 : decode cX11_output 14 = .ok (.invokestatic 57, 3) := by decide +kernel
theorem dX11_output_17 : decode cX11_output 17 = .ok (.ifCond .ne 7, 3) := by decide +kernel
theorem dX11_output_20 : decode cX11_output 20 = .ok (.iconst 1, 1) := by decide +kernel
theorem dX11_output_21 : decode cX11_output 21 = .ok (.goto 4, 3) := by decide +kernel
theorem dX11_output_24 : decode cX11_output 24 = .ok (.iconst 0, 1) := by decide +kernel
theorem dX11_output_25 : decode cX11_output 25 = .ok (.iconst 1, 1) := by decide +kernel
theorem dX11_output_26 : decode cX11_output 26 = .ok (.invokevirtual 61, 3) := by decide +kernel
theorem dX11_output_29 : decode cX11_output 29 = .ok (.ifCond .eq 7, 3) := by decide +kernel
theorem dX11_output_32 : decode cX11_output 32 = .ok (.iconst 0, 1) := by decide +kernel
theorem dX11_output_33 : decode cX11_output 33 = .ok (.goto 9, 3) := by decide +kernel
theorem dX11_output_36 : decode cX11_output 36 = .ok (.aload_n 0, 1) := by decide +kernel
theorem dX11_output_37 : decode cX11_output 37 = .ok (.getfield 43, 3) := by decide +kernel
theorem dX11_output_40 : decode cX11_output 40 = .ok (.iload_n 1, 1) := by decide +kernel
theorem dX11_output_41 : decode cX11_output 41 = .ok (.iaload, 1) := by decide +kernel
theorem dX11_output_42 : decode cX11_output 42 = .ok (.ireturn, 1) := by decide +kernel
theorem dX11_undo_0 : decode cX11_undo 0 = .ok (.aload_n 0, 1) := by decide +kernel
theorem dX11_undo_1 : decode cX11_undo 1 = .ok (.iconst 0, 1) := by decide +kernel
theorem dX11_undo_2 : decode cX11_undo 2 = .ok (.putfield 50, 3) := by decide +kernel
theorem dX11_undo_5 : decode cX11_undo 5 = .ok (.aload_n 0, 1) := by decide +kernel
theorem dX11_undo_6 : decode cX11_undo 6 = .ok (.aload_n 0, 1) := by decide +kernel
theorem dX11_undo_7 : decode cX11_undo 7 = .ok (.getfield 176, 3) := by decide +kernel
theorem dX11_undo_10 : decode cX11_undo 10 = .ok (.ifCond .ne 7, 3) := by decide +kernel
theorem dX11_undo_13 : decode cX11_undo 13 = .ok (.iconst 1, 1) := by decide +kernel
theorem dX11_undo_14 : decode cX11_undo 14 = .ok (.goto 4, 3) := by decide +kernel
theorem dX11_undo_17 : decode cX11_undo 17 = .ok (.iconst 0, 1) := by decide +kernel
theorem dX11_undo_18 : decode cX11_undo 18 = .ok (.iconst 1, 1) := by decide +kernel
theorem dX11_undo_19 : decode cX11_undo 19 = .ok (.invokevirtual 61, 3) := by decide +kernel
theorem dX11_undo_22 : decode cX11_undo 22 = .ok (.ifCond .eq 5, 3) := by decide +kernel
theorem dX11_undo_25 : decode cX11_undo 25 = .ok (.iconst 0, 1) := by decide +kernel
theorem dX11_undo_26 : decode cX11_undo 26 = .ok (.ireturn, 1) := by decide +kernel
theorem dX11_undo_27 : decode cX11_undo 27 = .ok (.aload_n 0, 1) := by decide +kernel
theorem dX11_undo_28 : decode cX11_undo 28 = .ok (.dup, 1) := by decide +kernel
theorem dX11_undo_29 : decode cX11_undo 29 = .ok (.getfield 176, 3) := by decide +kernel
theorem dX11_undo_32 : decode cX11_undo 32 = .ok (.iconst 1, 1) := by decide +kernel
theorem dX11_undo_33 : decode cX11_undo 33 = .ok (.isub, 1) := by decide +kernel
theorem dX11_undo_34 : decode cX11_undo 34 = .ok (.putfield 176, 3) := by decide +kernel
theorem dX11_undo_37 : decode cX11_undo 37 = .ok (.aload_n 0, 1) := by decide +kernel
theorem dX11_undo_38 : decode cX11_undo 38 = .ok (.getfield 19, 3) := by decide +kernel
theorem dX11_undo_41 : decode cX11_undo 41 = .ok (.sipush 268, 3) := by decide +kernel
theorem dX11_undo_44 : decode cX11_undo 44 = .ok (.aload_n 0, 1) := by decide +kernel
theorem dX11_undo_45 : decode cX11_undo 45 = .ok (.getfield 176, 3) := by decide +kernel
theorem dX11_undo_48 : decode cX11_undo 48 = .ok (.imul, 1) := by decide +kernel
theorem dX11_undo_49 : decode cX11_undo 49 = .ok (.aload_n 0, 1) := by decide +kernel
theorem dX11_undo_50 : decode cX11_undo 50 = .ok (.getfield 7, 3) := by decide +kernel
theorem dX11_undo_53 : decode cX11_undo 53 = .ok (.iconst 0, 1) := by decide +kernel
theorem dX11_undo_54 : decode cX11_undo 54 = .ok (.invokestatic 200, 3) := by decide +kernel
theorem dX11_undo_57 : decode cX11_undo 57 = .ok (.aload_n 0, 1) := by decide +kernel
theorem dX11_undo_58 : decode cX11_undo 58 = .ok (.getfield 176, 3) := by decide +kernel
theorem dX11_undo_61 : decode cX11_undo 61 = .ok (.ireturn, 1) := by decide +kernel
theorem dX11_noSlot_0 : decode cX11_noSlot 0 = .ok (.aload_n 0, 1) := by decide +kernel
theorem dX11_noSlot_1 : decode cX11_noSlot 1 = .ok (.iconst 0, 1) := by decide +kernel
theorem dX11_noSlot_2 : decode cX11_noSlot 2 = .ok (.putfield 50, 3) := by decide +kernel
theorem dX11_noSlot_5 : decode cX11_noSlot 5 = .ok (.aload_n 0, 1) := by decide +kernel
theorem dX11_noSlot_6 : decode cX11_noSlot 6 = .ok (.iload_n 1, 1) := by decide +kernel
theorem dX11_noSlot_7 : decode cX11_noSlot 7 = .ok (.iconst 0, 1) := by decide +kernel
theorem dX11_noSlot_8 : decode cX11_noSlot 8 = .ok (.iconst 1, 1) := by decide +kernel
theorem dX11_noSlot_9 : decode cX11_noSlot 9 = .ok (.invokestatic 57, 3) := by decide +kernel
theorem dX11_noSlot_12 : decode cX11_noSlot 12 = .ok (.ifCond .ne 7, 3) := by decide +kernel
theorem dX11_noSlot_15 : decode cX11_noSlot 15 = .ok (.iconst 1, 1) := by decide +kernel
theorem dX11_noSlot_16 : decode cX11_noSlot 16 = .ok (.goto 4, 3) := by decide +kernel
theorem dX11_noSlot_19 : decode cX11_noSlot 19 = .ok (.iconst 0, 1) := by decide +kernel
theorem dX11_noSlot_20 : decode cX11_noSlot 20 = .ok (.iconst 1, 1) := by decide +kernel
theorem dX11_noSlot_21 : decode cX11_noSlot 21 = .ok (.invokevirtual 61, 3) := by decide +kernel
theorem dX11_noSlot_24 : decode cX11_noSlot 24 = .ok (.ireturn, 1) := by decide +kernel
theorem dX11_save_0 : decode cX11_save 0 = .ok (.aload_n 0, 1) := by decide +kernel
theorem dX11_save_1 : decode cX11_save 1 = .ok (.iload_n 1, 1) := by decide +kernel
theorem dX11_save_2 : decode cX11_save 2 = .ok (.invokevirtual 403, 3) := by decide +kernel
theorem dX11_save_5 : decode cX11_save 5 = .ok (.ifCond .eq 5, 3) := by decide +kernel
theorem dX11_save_8 : decode cX11_save 8 = .ok (.iconst 0, 1) := by decide +kernel
theorem dX11_save_9 : decode cX11_save 9 = .ok (.ireturn, 1) := by decide +kernel
theorem dX11_save_10 : decode cX11_save 10 = .ok (.aload_n 0, 1) := by decide +kernel
theorem dX11_save_11 : decode cX11_save 11 = .ok (.getfield 7, 3) := by decide +kernel
theorem dX11_save_14 : decode cX11_save 14 = .ok (.iconst 0, 1) := by decide +kernel
theorem dX11_save_15 : decode cX11_save 15 = .ok (.aload_n 0, 1) := by decide +kernel
theorem dX11_save_16 : decode cX11_save 16 = .ok (.getfield 22, 3) := by decide +kernel
theorem dX11_save_19 : decode cX11_save 19 = .ok (.sipush 268, 3) := by decide +kernel
theorem dX11_save_22 : decode cX11_save 22 = .ok (.iload_n 1, 1) := by decide +kernel
theorem dX11_save_23 : decode cX11_save 23 = .ok (.imul, 1) := by decide +kernel
theorem dX11_save_24 : decode cX11_save 24 = .ok (.invokestatic 200, 3) := by decide +kernel
theorem dX11_save_27 : decode cX11_save 27 = .ok (.aload_n 0, 1) := by decide +kernel
theorem dX11_save_28 : decode cX11_save 28 = .ok (.getfield 25, 3) := by decide +kernel
theorem dX11_save_31 : decode cX11_save 31 = .ok (.iload_n 1, 1) := by decide +kernel
theorem dX11_save_32 : decode cX11_save 32 = .ok (.iconst 1, 1) := by decide +kernel
theorem dX11_save_33 : decode cX11_save 33 = .ok (.bastore, 1) := by decide +kernel
theorem dX11_save_34 : decode cX11_save 34 = .ok (.aload_n 0, 1) := by decide +kernel
theorem dX11_save_35 : decode cX11_save 35 = .ok (.getfield 7, 3) := by decide +kernel
theorem dX11_save_38 : decode cX11_save 38 = .ok (.bipush 6, 2) := by decide +kernel
theorem dX11_save_40 : decode cX11_save 40 = .ok (.iaload, 1) := by decide +kernel
theorem dX11_save_41 : decode cX11_save 41 = .ok (.ireturn, 1) := by decide +kernel
theorem dX11_restore_0 : decode cX11_restore 0 = .ok (.aload_n 0, 1) := by decide +kernel
theorem dX11_restore_1 : decode cX11_restore 1 = .ok (.iload_n 1, 1) := by decide +kernel
theorem dX11_restore_2 : decode cX11_restore 2 = .ok (.invokevirtual 403, 3) := by decide +kernel
theorem dX11_restore_5 : decode cX11_restore 5 = .ok (.ifCond .ne 25, 3) := by decide +kernel
theorem dX11_restore_8 : decode cX11_restore 8 = .ok (.aload_n 0, 1) := by decide +kernel
theorem dX11_restore_9 : decode cX11_restore 9 = .ok (.aload_n 0, 1) := by decide +kernel
theorem dX11_restore_10 : decode cX11_restore 10 = .ok (.getfield 25, 3) := by decide +kernel
theorem dX11_restore_13 : decode cX11_restore 13 = .ok (.iload_n 1, 1) := by decide +kernel
theorem dX11_restore_14 : decode cX11_restore 14 = .ok (.baload, 1) := by decide +kernel
theorem dX11_restore_15 : decode cX11_restore 15 = .ok (.ifCond .ne 7, 3) := by decide +kernel
theorem dX11_restore_18 : decode cX11_restore 18 = .ok (.iconst 1, 1) := by decide +kernel
theorem dX11_restore_19 : decode cX11_restore 19 = .ok (.goto 4, 3) := by decide +kernel
theorem dX11_restore_22 : decode cX11_restore 22 = .ok (.iconst 0, 1) := by decide +kernel
theorem dX11_restore_23 : decode cX11_restore 23 = .ok (.iconst 2, 1) := by decide +kernel
theorem dX11_restore_24 : decode cX11_restore 24 = .ok (.invokevirtual 61, 3) := by decide +kernel
theorem dX11_restore_27 : decode cX11_restore 27 = .ok (.ifCond .eq 5, 3) := by decide +kernel
theorem dX11_restore_30 : decode cX11_restore 30 = .ok (.iconst 0, 1) := by decide +kernel
theorem dX11_restore_31 : decode cX11_restore 31 = .ok (.ireturn, 1) := by decide +kernel
theorem dX11_restore_32 : decode cX11_restore 32 = .ok (.aload_n 0, 1) := by decide +kernel
theorem dX11_restore_33 : decode cX11_restore 33 = .ok (.getfield 22, 3) := by decide +kernel
theorem dX11_restore_36 : decode cX11_restore 36 = .ok (.sipush 268, 3) := by decide +kernel
theorem dX11_restore_39 : decode cX11_restore 39 = .ok (.iload_n 1, 1) := by decide +kernel
theorem dX11_restore_40 : decode cX11_restore 40 = .ok (.imul, 1) := by decide +kernel
theorem dX11_restore_41 : decode cX11_restore 41 = .ok (.aload_n 0, 1) := by decide +kernel
theorem dX11_restore_42 : decode cX11_restore 42 = .ok (.getfield 7, 3) := by decide +kernel
theorem dX11_restore_45 : decode cX11_restore 45 = .ok (.iconst 0, 1) := by decide +kernel
theorem dX11_restore_46 : decode cX11_restore 46 = .ok (.invokestatic 200, 3) := by decide +kernel
theorem dX11_restore_49 : decode cX11_restore 49 = .ok (.aload_n 0, 1) := by decide +kernel
theorem dX11_restore_50 : decode cX11_restore 50 = .ok (.iconst 0, 1) := by decide +kernel
theorem dX11_restore_51 : decode cX11_restore 51 = .ok (.putfield 176, 3) := by decide +kernel
theorem dX11_restore_54 : decode cX11_restore 54 = .ok (.aload_n 0, 1) := by decide +kernel
theorem dX11_restore_55 : decode cX11_restore 55 = .ok (.getfield 7, 3) := by decide +kernel
theorem dX11_restore_58 : decode cX11_restore 58 = .ok (.bipush 6, 2) := by decide +kernel
theorem dX11_restore_60 : decode cX11_restore 60 = .ok (.iaload, 1) := by decide +kernel
theorem dX11_restore_61 : decode cX11_restore 61 = .ok (.ireturn, 1) := by decide +kernel
theorem dJ9_max_7cf53_0 : decode cJ9_max_7cf53 0 = .ok (.iload_n 0, 1) := by decide +kernel
theorem dJ9_max_7cf53_1 : decode cJ9_max_7cf53 1 = .ok (.iload_n 1, 1) := by decide +kernel
theorem dJ9_max_7cf53_2 : decode cJ9_max_7cf53 2 = .ok (.if_icmp .lt 7, 3) := by decide +kernel
theorem dJ9_max_7cf53_5 : decode cJ9_max_7cf53 5 = .ok (.iload_n 0, 1) := by decide +kernel
theorem dJ9_max_7cf53_6 : decode cJ9_max_7cf53 6 = .ok (.goto 4, 3) := by decide +kernel
theorem dJ9_max_7cf53_9 : decode cJ9_max_7cf53 9 = .ok (.iload_n 1, 1) := by decide +kernel
theorem dJ9_max_7cf53_10 : decode cJ9_max_7cf53 10 = .ok (.ireturn, 1) := by decide +kernel
theorem dJ9_max_f86c9_0 : decode cJ9_max_f86c9 0 = .ok (.lload_n 0, 1) := by decide +kernel
theorem dJ9_max_f86c9_1 : decode cJ9_max_f86c9 1 = .ok (.lload_n 2, 1) := by decide +kernel
theorem dJ9_max_f86c9_2 : decode cJ9_max_f86c9 2 = .ok (.lcmp, 1) := by decide +kernel
theorem dJ9_max_f86c9_3 : decode cJ9_max_f86c9 3 = .ok (.ifCond .lt 7, 3) := by decide +kernel
theorem dJ9_max_f86c9_6 : decode cJ9_max_f86c9 6 = .ok (.lload_n 0, 1) := by decide +kernel
theorem dJ9_max_f86c9_7 : decode cJ9_max_f86c9 7 = .ok (.goto 4, 3) := by decide +kernel
theorem dJ9_max_f86c9_10 : decode cJ9_max_f86c9 10 = .ok (.lload_n 2, 1) := by decide +kernel
theorem dJ9_max_f86c9_11 : decode cJ9_max_f86c9 11 = .ok (.lreturn, 1) := by decide +kernel
theorem dJ9_min_7cf53_0 : decode cJ9_min_7cf53 0 = .ok (.iload_n 0, 1) := by decide +kernel
theorem dJ9_min_7cf53_1 : decode cJ9_min_7cf53 1 = .ok (.iload_n 1, 1) := by decide +kernel
theorem dJ9_min_7cf53_2 : decode cJ9_min_7cf53 2 = .ok (.if_icmp .gt 7, 3) := by decide +kernel
theorem dJ9_min_7cf53_5 : decode cJ9_min_7cf53 5 = .ok (.iload_n 0, 1) := by decide +kernel
theorem dJ9_min_7cf53_6 : decode cJ9_min_7cf53 6 = .ok (.goto 4, 3) := by decide +kernel
theorem dJ9_min_7cf53_9 : decode cJ9_min_7cf53 9 = .ok (.iload_n 1, 1) := by decide +kernel
theorem dJ9_min_7cf53_10 : decode cJ9_min_7cf53 10 = .ok (.ireturn, 1) := by decide +kernel
theorem dJ0_length_8abf5_0 : decode cJ0_length_8abf5 0 = .ok (.aload_n 0, 1) := by decide +kernel
theorem dJ0_length_8abf5_1 : decode cJ0_length_8abf5 1 = .ok (.getfield 9, 3) := by decide +kernel
theorem dJ0_length_8abf5_4 : decode cJ0_length_8abf5 4 = .ok (.arraylength, 1) := by decide +kernel
theorem dJ0_length_8abf5_5 : decode cJ0_length_8abf5 5 = .ok (.aload_n 0, 1) := by decide +kernel
theorem dJ0_length_8abf5_6 : decode cJ0_length_8abf5 6 = .ok (.invokevirtual 335, 3) := by decide +kernel
theorem dJ0_length_8abf5_9 : decode cJ0_length_8abf5 9 = .ok (.ishr, 1) := by decide +kernel
theorem dJ0_length_8abf5_10 : decode cJ0_length_8abf5 10 = .ok (.ireturn, 1) := by decide +kernel
theorem dJ0_charAt_5068e_0 : decode cJ0_charAt_5068e 0 = .ok (.aload_n 0, 1) := by decide +kernel
theorem dJ0_charAt_5068e_1 : decode cJ0_charAt_5068e 1 = .ok (.invokevirtual 492, 3) := by decide +kernel
theorem dJ0_charAt_5068e_4 : decode cJ0_charAt_5068e 4 = .ok (.ifCond .eq 12, 3) := by decide +kernel
theorem dJ0_charAt_5068e_7 : decode cJ0_charAt_5068e 7 = .ok (.aload_n 0, 1) := by decide +kernel
theorem dJ0_charAt_5068e_8 : decode cJ0_charAt_5068e 8 = .ok (.getfield 9, 3) := by decide +kernel
theorem dJ0_charAt_5068e_11 : decode cJ0_charAt_5068e 11 = .ok (.iload_n 1, 1) := by decide +kernel
theorem dJ0_charAt_5068e_12 : decode cJ0_charAt_5068e 12 = .ok (.invokestatic 495, 3) := by decide +kernel
theorem dJ0_charAt_5068e_15 : decode cJ0_charAt_5068e 15 = .ok (.ireturn, 1) := by decide +kernel
theorem dJ0_charAt_5068e_16 : decode cJ0_charAt_5068e 16 = .ok (.aload_n 0, 1) := by decide +kernel
theorem dJ0_charAt_5068e_17 : decode cJ0_charAt_5068e 17 = .ok (.getfield 9, 3) := by decide +kernel
theorem dJ0_charAt_5068e_20 : decode cJ0_charAt_5068e 20 = .ok (.iload_n 1, 1) := by decide +kernel
theorem dJ0_charAt_5068e_21 : decode cJ0_charAt_5068e 21 = .ok (.invokestatic 498, 3) := by decide +kernel
theorem dJ0_charAt_5068e_24 : decode cJ0_charAt_5068e 24 = .ok (.ireturn, 1) := by decide +kernel
theorem dJ0_coder_7d493_0 : decode cJ0_coder_7d493 0 = .ok (.getstatic 38, 3) := by decide +kernel
theorem dJ0_coder_7d493_3 : decode cJ0_coder_7d493 3 = .ok (.ifCond .eq 10, 3) := by decide +kernel
theorem dJ0_coder_7d493_6 : decode cJ0_coder_7d493 6 = .ok (.aload_n 0, 1) := by decide +kernel
theorem dJ0_coder_7d493_7 : decode cJ0_coder_7d493 7 = .ok (.getfield 15, 3) := by decide +kernel
theorem dJ0_coder_7d493_10 : decode cJ0_coder_7d493 10 = .ok (.goto 4, 3) := by decide +kernel
theorem dJ0_coder_7d493_13 : decode cJ0_coder_7d493 13 = .ok (.iconst 1, 1) := by decide +kernel
theorem dJ0_coder_7d493_14 : decode cJ0_coder_7d493 14 = .ok (.ireturn, 1) := by decide +kernel
theorem dJ0_isLatin1_aae02_0 : decode cJ0_isLatin1_aae02 0 = .ok (.getstatic 38, 3) := by decide +kernel
theorem dJ0_isLatin1_aae02_3 : decode cJ0_isLatin1_aae02 3 = .ok (.ifCond .eq 14, 3) := by decide +kernel
theorem dJ0_isLatin1_aae02_6 : decode cJ0_isLatin1_aae02 6 = .ok (.aload_n 0, 1) := by decide +kernel
theorem dJ0_isLatin1_aae02_7 : decode cJ0_isLatin1_aae02 7 = .ok (.getfield 15, 3) := by decide +kernel
theorem dJ0_isLatin1_aae02_10 : decode cJ0_isLatin1_aae02 10 = .ok (.ifCond .ne 7, 3) := by decide +kernel
theorem dJ0_isLatin1_aae02_13 : decode cJ0_isLatin1_aae02 13 = .ok (.iconst 1, 1) := by decide +kernel
theorem dJ0_isLatin1_aae02_14 : decode cJ0_isLatin1_aae02 14 = .ok (.goto 4, 3) := by decide +kernel
theorem dJ0_isLatin1_aae02_17 : decode cJ0_isLatin1_aae02 17 = .ok (.iconst 0, 1) := by decide +kernel
theorem dJ0_isLatin1_aae02_18 : decode cJ0_isLatin1_aae02 18 = .ok (.ireturn, 1) := by decide +kernel
theorem dJ0_checkIndex_df160_0 : decode cJ0_checkIndex_df160 0 = .ok (.iload_n 0, 1) := by decide +kernel
theorem dJ0_checkIndex_df160_1 : decode cJ0_checkIndex_df160 1 = .ok (.iload_n 1, 1) := by decide +kernel
theorem dJ0_checkIndex_df160_2 : decode cJ0_checkIndex_df160 2 = .ok (.getstatic 1053, 3) := by decide +kernel
theorem dJ0_checkIndex_df160_5 : decode cJ0_checkIndex_df160 5 = .ok (.invokestatic 1059, 3) := by decide +kernel
theorem dJ0_checkIndex_df160_8 : decode cJ0_checkIndex_df160 8 = .ok (.pop, 1) := by decide +kernel
theorem dJ0_checkIndex_df160_9 : decode cJ0_checkIndex_df160 9 = .ok (.return_, 1) := by decide +kernel
theorem dJ1_charAt_3b067_0 : decode cJ1_charAt_3b067 0 = .ok (.iload_n 1, 1) := by decide +kernel
theorem dJ1_charAt_3b067_1 : decode cJ1_charAt_3b067 1 = .ok (.aload_n 0, 1) := by decide +kernel
theorem dJ1_charAt_3b067_2 : decode cJ1_charAt_3b067 2 = .ok (.arraylength, 1) := by decide +kernel
theorem dJ1_charAt_3b067_3 : decode cJ1_charAt_3b067 3 = .ok (.invokestatic 9, 3) := by decide +kernel
theorem dJ1_charAt_3b067_6 : decode cJ1_charAt_3b067 6 = .ok (.aload_n 0, 1) := by decide +kernel
theorem dJ1_charAt_3b067_7 : decode cJ1_charAt_3b067 7 = .ok (.iload_n 1, 1) := by decide +kernel
theorem dJ1_charAt_3b067_8 : decode cJ1_charAt_3b067 8 = .ok (.baload, 1) := by decide +kernel
theorem dJ1_charAt_3b067_9 : decode cJ1_charAt_3b067 9 = .ok (.sipush 255, 3) := by decide +kernel
theorem dJ1_charAt_3b067_12 : decode cJ1_charAt_3b067 12 = .ok (.iand, 1) := by decide +kernel
theorem dJ1_charAt_3b067_13 : decode cJ1_charAt_3b067 13 = .ok (.i2c, 1) := by decide +kernel
theorem dJ1_charAt_3b067_14 : decode cJ1_charAt_3b067 14 = .ok (.ireturn, 1) := by decide +kernel
theorem dJ2_getChar_3b067_0 : decode cJ2_getChar_3b067 0 = .ok (.getstatic 44, 3) := by decide +kernel
theorem dJ2_getChar_3b067_3 : decode cJ2_getChar_3b067 3 = .ok (.ifCond .ne 25, 3) := by decide +kernel
theorem dJ2_getChar_3b067_6 : decode cJ2_getChar_3b067 6 = .ok (.iload_n 1, 1) := by decide +kernel
theorem dJ2_getChar_3b067_7 : decode cJ2_getChar_3b067 7 = .ok (.ifCond .lt 11, 3) := by decide +kernel
theorem dJ2_getChar_3b067_10 : decode cJ2_getChar_3b067 10 = .ok (.iload_n 1, 1) := by decide +kernel
theorem dJ2_getChar_3b067_11 : decode cJ2_getChar_3b067 11 = .ok (.aload_n 0, 1) := by decide +kernel
theorem dJ2_getChar_3b067_12 : decode cJ2_getChar_3b067 12 = .ok (.invokestatic 48, 3) := by decide +kernel
theorem dJ2_getChar_3b067_15 : decode cJ2_getChar_3b067 15 = .ok (.if_icmp .lt 13, 3) := by decide +kernel
theorem dJ2_getChar_3b067_18 : decode cJ2_getChar_3b067 18 = .ok (.new 52, 3) := by decide +kernel
theorem dJ2_getChar_3b067_21 : decode cJ2_getChar_3b067 21 = .ok (.dup, 1) := by decide +kernel
theorem dJ2_getChar_3b067_22 : decode cJ2_getChar_3b067 22 = .ok (.ldc 54, 2) := by decide +kernel
theorem dJ2_getChar_3b067_24 : decode cJ2_getChar_3b067 24 = .ok (.invokespecial 56, 3) := by decide +kernel
theorem dJ2_getChar_3b067_27 : decode cJ2_getChar_3b067 27 = .ok (.athrow, 1) := by decide +kernel
theorem dJ2_getChar_3b067_28 : decode cJ2_getChar_3b067 28 = .ok (.iload_n 1, 1) := by decide +kernel
theorem dJ2_getChar_3b067_29 : decode cJ2_getChar_3b067 29 = .ok (.iconst 1, 1) := by decide +kernel
theorem dJ2_getChar_3b067_30 : decode cJ2_getChar_3b067 30 = .ok (.ishl, 1) := by decide +kernel
theorem dJ2_getChar_3b067_31 : decode cJ2_getChar_3b067 31 = .ok (.istore_n 1, 1) := by decide +kernel
theorem dJ2_getChar_3b067_32 : decode cJ2_getChar_3b067 32 = .ok (.aload_n 0, 1) := by decide +kernel
theorem dJ2_getChar_3b067_33 : decode cJ2_getChar_3b067 33 = .ok (.iload_n 1, 1) := by decide +kernel
theorem dJ2_getChar_3b067_34 : decode cJ2_getChar_3b067 34 = .ok (.iinc 1 1, 3) := by decide +kernel
theorem dJ2_getChar_3b067_37 : decode cJ2_getChar_3b067 37 = .ok (.baload, 1) := by decide +kernel
theorem dJ2_getChar_3b067_38 : decode cJ2_getChar_3b067 38 = .ok (.sipush 255, 3) := by decide +kernel
theorem dJ2_getChar_3b067_41 : decode cJ2_getChar_3b067 41 = .ok (.iand, 1) := by decide +kernel
theorem dJ2_getChar_3b067_42 : decode cJ2_getChar_3b067 42 = .ok (.getstatic 59, 3) := by decide +kernel
theorem dJ2_getChar_3b067_45 : decode cJ2_getChar_3b067 45 = .ok (.ishl, 1) := by decide +kernel
theorem dJ2_getChar_3b067_46 : decode cJ2_getChar_3b067 46 = .ok (.aload_n 0, 1) := by decide +kernel
theorem dJ2_getChar_3b067_47 : decode cJ2_getChar_3b067 47 = .ok (.iload_n 1, 1) := by decide +kernel
theorem dJ2_getChar_3b067_48 : decode cJ2_getChar_3b067 48 = .ok (.baload, 1) := by decide +kernel
theorem dJ2_getChar_3b067_49 : decode cJ2_getChar_3b067 49 = .ok (.sipush 255, 3) := by decide +kernel
theorem dJ2_getChar_3b067_52 : decode cJ2_getChar_3b067 52 = .ok (.iand, 1) := by decide +kernel
theorem dJ2_getChar_3b067_53 : decode cJ2_getChar_3b067 53 = .ok (.getstatic 63, 3) := by decide +kernel
theorem dJ2_getChar_3b067_56 : decode cJ2_getChar_3b067 56 = .ok (.ishl, 1) := by decide +kernel
theorem dJ2_getChar_3b067_57 : decode cJ2_getChar_3b067 57 = .ok (.ior, 1) := by decide +kernel
theorem dJ2_getChar_3b067_58 : decode cJ2_getChar_3b067 58 = .ok (.i2c, 1) := by decide +kernel
theorem dJ2_getChar_3b067_59 : decode cJ2_getChar_3b067 59 = .ok (.ireturn, 1) := by decide +kernel
theorem dJ2_length_9d52b_0 : decode cJ2_length_9d52b 0 = .ok (.aload_n 0, 1) := by decide +kernel
theorem dJ2_length_9d52b_1 : decode cJ2_length_9d52b 1 = .ok (.arraylength, 1) := by decide +kernel
theorem dJ2_length_9d52b_2 : decode cJ2_length_9d52b 2 = .ok (.iconst 1, 1) := by decide +kernel
theorem dJ2_length_9d52b_3 : decode cJ2_length_9d52b 3 = .ok (.ishr, 1) := by decide +kernel
theorem dJ2_length_9d52b_4 : decode cJ2_length_9d52b 4 = .ok (.ireturn, 1) := by decide +kernel
theorem dJ2_charAt_3b067_0 : decode cJ2_charAt_3b067 0 = .ok (.iload_n 1, 1) := by decide +kernel
theorem dJ2_charAt_3b067_1 : decode cJ2_charAt_3b067 1 = .ok (.aload_n 0, 1) := by decide +kernel
theorem dJ2_charAt_3b067_2 : decode cJ2_charAt_3b067 2 = .ok (.invokestatic 67, 3) := by decide +kernel
theorem dJ2_charAt_3b067_5 : decode cJ2_charAt_3b067 5 = .ok (.aload_n 0, 1) := by decide +kernel
theorem dJ2_charAt_3b067_6 : decode cJ2_charAt_3b067 6 = .ok (.iload_n 1, 1) := by decide +kernel
theorem dJ2_charAt_3b067_7 : decode cJ2_charAt_3b067 7 = .ok (.invokestatic 71, 3) := by decide +kernel
theorem dJ2_charAt_3b067_10 : decode cJ2_charAt_3b067 10 = .ok (.ireturn, 1) := by decide +kernel
theorem dJ2_checkIndex_2214a_0 : decode cJ2_checkIndex_2214a 0 = .ok (.iload_n 0, 1) := by decide +kernel
theorem dJ2_checkIndex_2214a_1 : decode cJ2_checkIndex_2214a 1 = .ok (.aload_n 1, 1) := by decide +kernel
theorem dJ2_checkIndex_2214a_2 : decode cJ2_checkIndex_2214a 2 = .ok (.invokestatic 48, 3) := by decide +kernel
theorem dJ2_checkIndex_2214a_5 : decode cJ2_checkIndex_2214a 5 = .ok (.invokestatic 414, 3) := by decide +kernel
theorem dJ2_checkIndex_2214a_8 : decode cJ2_checkIndex_2214a 8 = .ok (.return_, 1) := by decide +kernel
theorem dJ3_checkIndex_8e157_0 : decode cJ3_checkIndex_8e157 0 = .ok (.iload_n 0, 1) := by decide +kernel
theorem dJ3_checkIndex_8e157_1 : decode cJ3_checkIndex_8e157 1 = .ok (.ifCond .lt 8, 3) := by decide +kernel
theorem dJ3_checkIndex_8e157_4 : decode cJ3_checkIndex_8e157 4 = .ok (.iload_n 0, 1) := by decide +kernel
theorem dJ3_checkIndex_8e157_5 : decode cJ3_checkIndex_8e157 5 = .ok (.iload_n 1, 1) := by decide +kernel
theorem dJ3_checkIndex_8e157_6 : decode cJ3_checkIndex_8e157 6 = .ok (.if_icmp .lt 10, 3) := by decide +kernel
theorem dJ3_checkIndex_8e157_9 : decode cJ3_checkIndex_8e157 9 = .ok (.aload_n 2, 1) := by decide +kernel
theorem dJ3_checkIndex_8e157_10 : decode cJ3_checkIndex_8e157 10 = .ok (.iload_n 0, 1) := by decide +kernel
theorem dJ3_checkIndex_8e157_11 : decode cJ3_checkIndex_8e157 11 = .ok (.iload_n 1, 1) := by decide +kernel
theorem dJ3_checkIndex_8e157_12 : decode cJ3_checkIndex_8e157 12 = .ok (.invokestatic 95, 3) := by decide +kernel
theorem dJ3_checkIndex_8e157_15 : decode cJ3_checkIndex_8e157 15 = .ok (.athrow, 1) := by decide +kernel
theorem dJ3_checkIndex_8e157_16 : decode cJ3_checkIndex_8e157 16 = .ok (.iload_n 0, 1) := by decide +kernel
theorem dJ3_checkIndex_8e157_17 : decode cJ3_checkIndex_8e157 17 = .ok (.ireturn, 1) := by decide +kernel
theorem dL_append_0 : decode cL_append 0 = .ok (.aload 6, 2) := by decide +kernel
theorem dL_append_2 : decode cL_append 2 = .ok (.iconst 0, 1) := by decide +kernel
theorem dL_append_3 : decode cL_append 3 = .ok (.aload_n 0, 1) := by decide +kernel
theorem dL_append_4 : decode cL_append 4 = .ok (.iload_n 1, 1) := by decide +kernel
theorem dL_append_5 : decode cL_append 5 = .ok (.iload_n 2, 1) := by decide +kernel
theorem dL_append_6 : decode cL_append 6 = .ok (.iload_n 3, 1) := by decide +kernel
theorem dL_append_7 : decode cL_append 7 = .ok (.iload 4, 2) := by decide +kernel
theorem dL_append_9 : decode cL_append 9 = .ok (.iload 5, 2) := by decide +kernel
theorem dL_append_11 : decode cL_append 11 = .ok (.invokevirtual 7, 3) := by decide +kernel
theorem dL_append_14 : decode cL_append 14 = .ok (.i2l, 1) := by decide +kernel
theorem dL_append_15 : decode cL_append 15 = .ok (.lastore, 1) := by decide +kernel
theorem dL_append_16 : decode cL_append 16 = .ok (.goto 7, 3) := by decide +kernel
theorem dL_append_19 : decode cL_append 19 = .ok (.astore 7, 2) := by decide +kernel
theorem dL_append_21 : decode cL_append 21 = .ok (.iconst 1, 1) := by decide +kernel
theorem dL_append_22 : decode cL_append 22 = .ok (.ireturn, 1) := by decide +kernel
theorem dL_append_23 : decode cL_append 23 = .ok (.iconst 0, 1) := by decide +kernel
theorem dL_append_24 : decode cL_append 24 = .ok (.ireturn, 1) := by decide +kernel
theorem dL_capsule_0 : decode cL_capsule 0 = .ok (.aload_n 2, 1) := by decide +kernel
theorem dL_capsule_1 : decode cL_capsule 1 = .ok (.iconst 0, 1) := by decide +kernel
theorem dL_capsule_2 : decode cL_capsule 2 = .ok (.aload_n 0, 1) := by decide +kernel
theorem dL_capsule_3 : decode cL_capsule 3 = .ok (.iload_n 1, 1) := by decide +kernel
theorem dL_capsule_4 : decode cL_capsule 4 = .ok (.invokevirtual 15, 3) := by decide +kernel
theorem dL_capsule_7 : decode cL_capsule 7 = .ok (.i2l, 1) := by decide +kernel
theorem dL_capsule_8 : decode cL_capsule 8 = .ok (.lastore, 1) := by decide +kernel
theorem dL_capsule_9 : decode cL_capsule 9 = .ok (.goto 6, 3) := by decide +kernel
theorem dL_capsule_12 : decode cL_capsule 12 = .ok (.astore_n 3, 1) := by decide +kernel
theorem dL_capsule_13 : decode cL_capsule 13 = .ok (.iconst 1, 1) := by decide +kernel
theorem dL_capsule_14 : decode cL_capsule 14 = .ok (.ireturn, 1) := by decide +kernel
theorem dL_capsule_15 : decode cL_capsule 15 = .ok (.iconst 0, 1) := by decide +kernel
theorem dL_capsule_16 : decode cL_capsule 16 = .ok (.ireturn, 1) := by decide +kernel
theorem dL_size_0 : decode cL_size 0 = .ok (.aload_n 2, 1) := by decide +kernel
theorem dL_size_1 : decode cL_size 1 = .ok (.iconst 0, 1) := by decide +kernel
theorem dL_size_2 : decode cL_size 2 = .ok (.aload_n 0, 1) := by decide +kernel
theorem dL_size_3 : decode cL_size 3 = .ok (.iload_n 1, 1) := by decide +kernel
theorem dL_size_4 : decode cL_size 4 = .ok (.invokevirtual 21, 3) := by decide +kernel
theorem dL_size_7 : decode cL_size 7 = .ok (.i2l, 1) := by decide +kernel
theorem dL_size_8 : decode cL_size 8 = .ok (.lastore, 1) := by decide +kernel
theorem dL_size_9 : decode cL_size 9 = .ok (.goto 6, 3) := by decide +kernel
theorem dL_size_12 : decode cL_size 12 = .ok (.astore_n 3, 1) := by decide +kernel
theorem dL_size_13 : decode cL_size 13 = .ok (.iconst 1, 1) := by decide +kernel
theorem dL_size_14 : decode cL_size 14 = .ok (.ireturn, 1) := by decide +kernel
theorem dL_size_15 : decode cL_size 15 = .ok (.iconst 0, 1) := by decide +kernel
theorem dL_size_16 : decode cL_size 16 = .ok (.ireturn, 1) := by decide +kernel
theorem dL_chute_0 : decode cL_chute 0 = .ok (.aload_n 3, 1) := by decide +kernel
theorem dL_chute_1 : decode cL_chute 1 = .ok (.iconst 0, 1) := by decide +kernel
theorem dL_chute_2 : decode cL_chute 2 = .ok (.aload_n 0, 1) := by decide +kernel
theorem dL_chute_3 : decode cL_chute 3 = .ok (.iload_n 1, 1) := by decide +kernel
theorem dL_chute_4 : decode cL_chute 4 = .ok (.iload_n 2, 1) := by decide +kernel
theorem dL_chute_5 : decode cL_chute 5 = .ok (.invokevirtual 24, 3) := by decide +kernel
theorem dL_chute_8 : decode cL_chute 8 = .ok (.i2l, 1) := by decide +kernel
theorem dL_chute_9 : decode cL_chute 9 = .ok (.lastore, 1) := by decide +kernel
theorem dL_chute_10 : decode cL_chute 10 = .ok (.goto 11, 3) := by decide +kernel
theorem dL_chute_13 : decode cL_chute 13 = .ok (.astore 4, 2) := by decide +kernel
theorem dL_chute_15 : decode cL_chute 15 = .ok (.iconst 1, 1) := by decide +kernel
theorem dL_chute_16 : decode cL_chute 16 = .ok (.ireturn, 1) := by decide +kernel
theorem dL_chute_17 : decode cL_chute 17 = .ok (.astore 4, 2) := by decide +kernel
theorem dL_chute_19 : decode cL_chute 19 = .ok (.iconst 2, 1) := by decide +kernel
theorem dL_chute_20 : decode cL_chute 20 = .ok (.ireturn, 1) := by decide +kernel
theorem dL_chute_21 : decode cL_chute 21 = .ok (.iconst 0, 1) := by decide +kernel
theorem dL_chute_22 : decode cL_chute 22 = .ok (.ireturn, 1) := by decide +kernel
theorem dL_line_0 : decode cL_line 0 = .ok (.aload_n 3, 1) := by decide +kernel
theorem dL_line_1 : decode cL_line 1 = .ok (.iconst 0, 1) := by decide +kernel
theorem dL_line_2 : decode cL_line 2 = .ok (.aload_n 0, 1) := by decide +kernel
theorem dL_line_3 : decode cL_line 3 = .ok (.iload_n 1, 1) := by decide +kernel
theorem dL_line_4 : decode cL_line 4 = .ok (.iload_n 2, 1) := by decide +kernel
theorem dL_line_5 : decode cL_line 5 = .ok (.invokevirtual 30, 3) := by decide +kernel
theorem dL_line_8 : decode cL_line 8 = .ok (.i2l, 1) := by decide +kernel
theorem dL_line_9 : decode cL_line 9 = .ok (.lastore, 1) := by decide +kernel
theorem dL_line_10 : decode cL_line 10 = .ok (.goto 7, 3) := by decide +kernel
theorem dL_line_13 : decode cL_line 13 = .ok (.astore 4, 2) := by decide +kernel
theorem dL_line_15 : decode cL_line 15 = .ok (.iconst 1, 1) := by decide +kernel
theorem dL_line_16 : decode cL_line 16 = .ok (.ireturn, 1) := by decide +kernel
theorem dL_line_17 : decode cL_line 17 = .ok (.iconst 0, 1) := by decide +kernel
theorem dL_line_18 : decode cL_line 18 = .ok (.ireturn, 1) := by decide +kernel
theorem dL_targetAt_0 : decode cL_targetAt 0 = .ok (.aload_n 2, 1) := by decide +kernel
theorem dL_targetAt_1 : decode cL_targetAt 1 = .ok (.iconst 0, 1) := by decide +kernel
theorem dL_targetAt_2 : decode cL_targetAt 2 = .ok (.aload_n 0, 1) := by decide +kernel
theorem dL_targetAt_3 : decode cL_targetAt 3 = .ok (.iload_n 1, 1) := by decide +kernel
theorem dL_targetAt_4 : decode cL_targetAt 4 = .ok (.invokevirtual 33, 3) := by decide +kernel
theorem dL_targetAt_7 : decode cL_targetAt 7 = .ok (.i2l, 1) := by decide +kernel
theorem dL_targetAt_8 : decode cL_targetAt 8 = .ok (.lastore, 1) := by decide +kernel
theorem dL_targetAt_9 : decode cL_targetAt 9 = .ok (.goto 6, 3) := by decide +kernel
theorem dL_targetAt_12 : decode cL_targetAt 12 = .ok (.astore_n 3, 1) := by decide +kernel
theorem dL_targetAt_13 : decode cL_targetAt 13 = .ok (.iconst 1, 1) := by decide +kernel
theorem dL_targetAt_14 : decode cL_targetAt 14 = .ok (.ireturn, 1) := by decide +kernel
theorem dL_targetAt_15 : decode cL_targetAt 15 = .ok (.iconst 0, 1) := by decide +kernel
theorem dL_targetAt_16 : decode cL_targetAt 16 = .ok (.ireturn, 1) := by decide +kernel
theorem dL_windAt_0 : decode cL_windAt 0 = .ok (.aload_n 2, 1) := by decide +kernel
theorem dL_windAt_1 : decode cL_windAt 1 = .ok (.iconst 0, 1) := by decide +kernel
theorem dL_windAt_2 : decode cL_windAt 2 = .ok (.aload_n 0, 1) := by decide +kernel
theorem dL_windAt_3 : decode cL_windAt 3 = .ok (.iload_n 1, 1) := by decide +kernel
theorem dL_windAt_4 : decode cL_windAt 4 = .ok (.invokevirtual 36, 3) := by decide +kernel
theorem dL_windAt_7 : decode cL_windAt 7 = .ok (.i2l, 1) := by decide +kernel
theorem dL_windAt_8 : decode cL_windAt 8 = .ok (.lastore, 1) := by decide +kernel
theorem dL_windAt_9 : decode cL_windAt 9 = .ok (.goto 6, 3) := by decide +kernel
theorem dL_windAt_12 : decode cL_windAt 12 = .ok (.astore_n 3, 1) := by decide +kernel
theorem dL_windAt_13 : decode cL_windAt 13 = .ok (.iconst 1, 1) := by decide +kernel
theorem dL_windAt_14 : decode cL_windAt 14 = .ok (.ireturn, 1) := by decide +kernel
theorem dL_windAt_15 : decode cL_windAt 15 = .ok (.iconst 0, 1) := by decide +kernel
theorem dL_windAt_16 : decode cL_windAt 16 = .ok (.ireturn, 1) := by decide +kernel
theorem dL_spot_0 : decode cL_spot 0 = .ok (.aload_n 3, 1) := by decide +kernel
theorem dL_spot_1 : decode cL_spot 1 = .ok (.iconst 0, 1) := by decide +kernel
theorem dL_spot_2 : decode cL_spot 2 = .ok (.aload_n 0, 1) := by decide +kernel
theorem dL_spot_3 : decode cL_spot 3 = .ok (.iload_n 1, 1) := by decide +kernel
theorem dL_spot_4 : decode cL_spot 4 = .ok (.iload_n 2, 1) := by decide +kernel
theorem dL_spot_5 : decode cL_spot 5 = .ok (.invokevirtual 39, 3) := by decide +kernel
theorem dL_spot_8 : decode cL_spot 8 = .ok (.i2l, 1) := by decide +kernel
theorem dL_spot_9 : decode cL_spot 9 = .ok (.lastore, 1) := by decide +kernel
theorem dL_spot_10 : decode cL_spot 10 = .ok (.goto 11, 3) := by decide +kernel
theorem dL_spot_13 : decode cL_spot 13 = .ok (.astore 4, 2) := by decide +kernel
theorem dL_spot_15 : decode cL_spot 15 = .ok (.iconst 1, 1) := by decide +kernel
theorem dL_spot_16 : decode cL_spot 16 = .ok (.ireturn, 1) := by decide +kernel
theorem dL_spot_17 : decode cL_spot 17 = .ok (.astore 4, 2) := by decide +kernel
theorem dL_spot_19 : decode cL_spot 19 = .ok (.iconst 2, 1) := by decide +kernel
theorem dL_spot_20 : decode cL_spot 20 = .ok (.ireturn, 1) := by decide +kernel
theorem dL_spot_21 : decode cL_spot 21 = .ok (.iconst 0, 1) := by decide +kernel
theorem dL_spot_22 : decode cL_spot 22 = .ok (.ireturn, 1) := by decide +kernel
theorem dL_event_0 : decode cL_event 0 = .ok (.aload_n 3, 1) := by decide +kernel
theorem dL_event_1 : decode cL_event 1 = .ok (.iconst 0, 1) := by decide +kernel
theorem dL_event_2 : decode cL_event 2 = .ok (.aload_n 0, 1) := by decide +kernel
theorem dL_event_3 : decode cL_event 3 = .ok (.iload_n 1, 1) := by decide +kernel
theorem dL_event_4 : decode cL_event 4 = .ok (.iload_n 2, 1) := by decide +kernel
theorem dL_event_5 : decode cL_event 5 = .ok (.invokevirtual 42, 3) := by decide +kernel
theorem dL_event_8 : decode cL_event 8 = .ok (.i2l, 1) := by decide +kernel
theorem dL_event_9 : decode cL_event 9 = .ok (.lastore, 1) := by decide +kernel
theorem dL_event_10 : decode cL_event 10 = .ok (.goto 11, 3) := by decide +kernel
theorem dL_event_13 : decode cL_event 13 = .ok (.astore 4, 2) := by decide +kernel
theorem dL_event_15 : decode cL_event 15 = .ok (.iconst 1, 1) := by decide +kernel
theorem dL_event_16 : decode cL_event 16 = .ok (.ireturn, 1) := by decide +kernel
theorem dL_event_17 : decode cL_event 17 = .ok (.astore 4, 2) := by decide +kernel
theorem dL_event_19 : decode cL_event 19 = .ok (.iconst 2, 1) := by decide +kernel
theorem dL_event_20 : decode cL_event 20 = .ok (.ireturn, 1) := by decide +kernel
theorem dL_event_21 : decode cL_event 21 = .ok (.iconst 0, 1) := by decide +kernel
theorem dL_event_22 : decode cL_event 22 = .ok (.ireturn, 1) := by decide +kernel
theorem dL_account_0 : decode cL_account 0 = .ok (.aload_n 2, 1) := by decide +kernel
theorem dL_account_1 : decode cL_account 1 = .ok (.iconst 0, 1) := by decide +kernel
theorem dL_account_2 : decode cL_account 2 = .ok (.aload_n 0, 1) := by decide +kernel
theorem dL_account_3 : decode cL_account 3 = .ok (.iload_n 1, 1) := by decide +kernel
theorem dL_account_4 : decode cL_account 4 = .ok (.invokevirtual 47, 3) := by decide +kernel
theorem dL_account_7 : decode cL_account 7 = .ok (.i2l, 1) := by decide +kernel
theorem dL_account_8 : decode cL_account 8 = .ok (.lastore, 1) := by decide +kernel
theorem dL_account_9 : decode cL_account 9 = .ok (.goto 6, 3) := by decide +kernel
theorem dL_account_12 : decode cL_account 12 = .ok (.astore_n 3, 1) := by decide +kernel
theorem dL_account_13 : decode cL_account 13 = .ok (.iconst 1, 1) := by decide +kernel
theorem dL_account_14 : decode cL_account 14 = .ok (.ireturn, 1) := by decide +kernel
theorem dL_account_15 : decode cL_account 15 = .ok (.iconst 0, 1) := by decide +kernel
theorem dL_account_16 : decode cL_account 16 = .ok (.ireturn, 1) := by decide +kernel
theorem dL_why_0 : decode cL_why 0 = .ok (.aload_n 2, 1) := by decide +kernel
theorem dL_why_1 : decode cL_why 1 = .ok (.iconst 0, 1) := by decide +kernel
theorem dL_why_2 : decode cL_why 2 = .ok (.aload_n 0, 1) := by decide +kernel
theorem dL_why_3 : decode cL_why 3 = .ok (.iload_n 1, 1) := by decide +kernel
theorem dL_why_4 : decode cL_why 4 = .ok (.invokevirtual 50, 3) := by decide +kernel
theorem dL_why_7 : decode cL_why 7 = .ok (.i2l, 1) := by decide +kernel
theorem dL_why_8 : decode cL_why 8 = .ok (.lastore, 1) := by decide +kernel
theorem dL_why_9 : decode cL_why 9 = .ok (.goto 6, 3) := by decide +kernel
theorem dL_why_12 : decode cL_why 12 = .ok (.astore_n 3, 1) := by decide +kernel
theorem dL_why_13 : decode cL_why 13 = .ok (.iconst 1, 1) := by decide +kernel
theorem dL_why_14 : decode cL_why 14 = .ok (.ireturn, 1) := by decide +kernel
theorem dL_why_15 : decode cL_why 15 = .ok (.iconst 0, 1) := by decide +kernel
theorem dL_why_16 : decode cL_why 16 = .ok (.ireturn, 1) := by decide +kernel
theorem dL_loadOn_0 : decode cL_loadOn 0 = .ok (.aload_n 2, 1) := by decide +kernel
theorem dL_loadOn_1 : decode cL_loadOn 1 = .ok (.iconst 0, 1) := by decide +kernel
theorem dL_loadOn_2 : decode cL_loadOn 2 = .ok (.aload_n 0, 1) := by decide +kernel
theorem dL_loadOn_3 : decode cL_loadOn 3 = .ok (.iload_n 1, 1) := by decide +kernel
theorem dL_loadOn_4 : decode cL_loadOn 4 = .ok (.invokevirtual 53, 3) := by decide +kernel
theorem dL_loadOn_7 : decode cL_loadOn 7 = .ok (.i2l, 1) := by decide +kernel
theorem dL_loadOn_8 : decode cL_loadOn 8 = .ok (.lastore, 1) := by decide +kernel
theorem dL_loadOn_9 : decode cL_loadOn 9 = .ok (.goto 6, 3) := by decide +kernel
theorem dL_loadOn_12 : decode cL_loadOn 12 = .ok (.astore_n 3, 1) := by decide +kernel
theorem dL_loadOn_13 : decode cL_loadOn 13 = .ok (.iconst 1, 1) := by decide +kernel
theorem dL_loadOn_14 : decode cL_loadOn 14 = .ok (.ireturn, 1) := by decide +kernel
theorem dL_loadOn_15 : decode cL_loadOn 15 = .ok (.iconst 0, 1) := by decide +kernel
theorem dL_loadOn_16 : decode cL_loadOn 16 = .ok (.ireturn, 1) := by decide +kernel
theorem dL_wouldTear_0 : decode cL_wouldTear 0 = .ok (.aload_n 2, 1) := by decide +kernel
theorem dL_wouldTear_1 : decode cL_wouldTear 1 = .ok (.iconst 0, 1) := by decide +kernel
theorem dL_wouldTear_2 : decode cL_wouldTear 2 = .ok (.aload_n 0, 1) := by decide +kernel
theorem dL_wouldTear_3 : decode cL_wouldTear 3 = .ok (.iload_n 1, 1) := by decide +kernel
theorem dL_wouldTear_4 : decode cL_wouldTear 4 = .ok (.invokevirtual 56, 3) := by decide +kernel
theorem dL_wouldTear_7 : decode cL_wouldTear 7 = .ok (.i2l, 1) := by decide +kernel
theorem dL_wouldTear_8 : decode cL_wouldTear 8 = .ok (.lastore, 1) := by decide +kernel
theorem dL_wouldTear_9 : decode cL_wouldTear 9 = .ok (.goto 6, 3) := by decide +kernel
theorem dL_wouldTear_12 : decode cL_wouldTear 12 = .ok (.astore_n 3, 1) := by decide +kernel
theorem dL_wouldTear_13 : decode cL_wouldTear 13 = .ok (.iconst 1, 1) := by decide +kernel
theorem dL_wouldTear_14 : decode cL_wouldTear 14 = .ok (.ireturn, 1) := by decide +kernel
theorem dL_wouldTear_15 : decode cL_wouldTear 15 = .ok (.iconst 0, 1) := by decide +kernel
theorem dL_wouldTear_16 : decode cL_wouldTear 16 = .ok (.ireturn, 1) := by decide +kernel
theorem dL_landAt_0 : decode cL_landAt 0 = .ok (.aload_n 1, 1) := by decide +kernel
theorem dL_landAt_1 : decode cL_landAt 1 = .ok (.iconst 0, 1) := by decide +kernel
theorem dL_landAt_2 : decode cL_landAt 2 = .ok (.aload_n 0, 1) := by decide +kernel
theorem dL_landAt_3 : decode cL_landAt 3 = .ok (.invokevirtual 59, 3) := by decide +kernel
theorem dL_landAt_6 : decode cL_landAt 6 = .ok (.i2l, 1) := by decide +kernel
theorem dL_landAt_7 : decode cL_landAt 7 = .ok (.lastore, 1) := by decide +kernel
theorem dL_landAt_8 : decode cL_landAt 8 = .ok (.goto 6, 3) := by decide +kernel
theorem dL_landAt_11 : decode cL_landAt 11 = .ok (.astore_n 2, 1) := by decide +kernel
theorem dL_landAt_12 : decode cL_landAt 12 = .ok (.iconst 1, 1) := by decide +kernel
theorem dL_landAt_13 : decode cL_landAt 13 = .ok (.ireturn, 1) := by decide +kernel
theorem dL_landAt_14 : decode cL_landAt 14 = .ok (.iconst 0, 1) := by decide +kernel
theorem dL_landAt_15 : decode cL_landAt 15 = .ok (.ireturn, 1) := by decide +kernel
theorem dL_failsIn_0 : decode cL_failsIn 0 = .ok (.aload_n 2, 1) := by decide +kernel
theorem dL_failsIn_1 : decode cL_failsIn 1 = .ok (.iconst 0, 1) := by decide +kernel
theorem dL_failsIn_2 : decode cL_failsIn 2 = .ok (.aload_n 0, 1) := by decide +kernel
theorem dL_failsIn_3 : decode cL_failsIn 3 = .ok (.iload_n 1, 1) := by decide +kernel
theorem dL_failsIn_4 : decode cL_failsIn 4 = .ok (.invokevirtual 63, 3) := by decide +kernel
theorem dL_failsIn_7 : decode cL_failsIn 7 = .ok (.i2l, 1) := by decide +kernel
theorem dL_failsIn_8 : decode cL_failsIn 8 = .ok (.lastore, 1) := by decide +kernel
theorem dL_failsIn_9 : decode cL_failsIn 9 = .ok (.goto 6, 3) := by decide +kernel
theorem dL_failsIn_12 : decode cL_failsIn 12 = .ok (.astore_n 3, 1) := by decide +kernel
theorem dL_failsIn_13 : decode cL_failsIn 13 = .ok (.iconst 1, 1) := by decide +kernel
theorem dL_failsIn_14 : decode cL_failsIn 14 = .ok (.ireturn, 1) := by decide +kernel
theorem dL_failsIn_15 : decode cL_failsIn 15 = .ok (.iconst 0, 1) := by decide +kernel
theorem dL_failsIn_16 : decode cL_failsIn 16 = .ok (.ireturn, 1) := by decide +kernel
theorem dL_bestSlip_0 : decode cL_bestSlip 0 = .ok (.aload_n 2, 1) := by decide +kernel
theorem dL_bestSlip_1 : decode cL_bestSlip 1 = .ok (.iconst 0, 1) := by decide +kernel
theorem dL_bestSlip_2 : decode cL_bestSlip 2 = .ok (.aload_n 0, 1) := by decide +kernel
theorem dL_bestSlip_3 : decode cL_bestSlip 3 = .ok (.iload_n 1, 1) := by decide +kernel
theorem dL_bestSlip_4 : decode cL_bestSlip 4 = .ok (.invokevirtual 66, 3) := by decide +kernel
theorem dL_bestSlip_7 : decode cL_bestSlip 7 = .ok (.i2l, 1) := by decide +kernel
theorem dL_bestSlip_8 : decode cL_bestSlip 8 = .ok (.lastore, 1) := by decide +kernel
theorem dL_bestSlip_9 : decode cL_bestSlip 9 = .ok (.goto 6, 3) := by decide +kernel
theorem dL_bestSlip_12 : decode cL_bestSlip 12 = .ok (.astore_n 3, 1) := by decide +kernel
theorem dL_bestSlip_13 : decode cL_bestSlip 13 = .ok (.iconst 1, 1) := by decide +kernel
theorem dL_bestSlip_14 : decode cL_bestSlip 14 = .ok (.ireturn, 1) := by decide +kernel
theorem dL_bestSlip_15 : decode cL_bestSlip 15 = .ok (.iconst 0, 1) := by decide +kernel
theorem dL_bestSlip_16 : decode cL_bestSlip 16 = .ok (.ireturn, 1) := by decide +kernel
theorem dL_tick_0 : decode cL_tick 0 = .ok (.aload_n 2, 1) := by decide +kernel
theorem dL_tick_1 : decode cL_tick 1 = .ok (.iconst 0, 1) := by decide +kernel
theorem dL_tick_2 : decode cL_tick 2 = .ok (.aload_n 0, 1) := by decide +kernel
theorem dL_tick_3 : decode cL_tick 3 = .ok (.iload_n 1, 1) := by decide +kernel
theorem dL_tick_4 : decode cL_tick 4 = .ok (.invokevirtual 69, 3) := by decide +kernel
theorem dL_tick_7 : decode cL_tick 7 = .ok (.i2l, 1) := by decide +kernel
theorem dL_tick_8 : decode cL_tick 8 = .ok (.lastore, 1) := by decide +kernel
theorem dL_tick_9 : decode cL_tick 9 = .ok (.goto 6, 3) := by decide +kernel
theorem dL_tick_12 : decode cL_tick 12 = .ok (.astore_n 3, 1) := by decide +kernel
theorem dL_tick_13 : decode cL_tick 13 = .ok (.iconst 1, 1) := by decide +kernel
theorem dL_tick_14 : decode cL_tick 14 = .ok (.ireturn, 1) := by decide +kernel
theorem dL_tick_15 : decode cL_tick 15 = .ok (.iconst 0, 1) := by decide +kernel
theorem dL_tick_16 : decode cL_tick 16 = .ok (.ireturn, 1) := by decide +kernel
theorem dL_fallTo_0 : decode cL_fallTo 0 = .ok (.aload_n 2, 1) := by decide +kernel
theorem dL_fallTo_1 : decode cL_fallTo 1 = .ok (.iconst 0, 1) := by decide +kernel
theorem dL_fallTo_2 : decode cL_fallTo 2 = .ok (.aload_n 0, 1) := by decide +kernel
theorem dL_fallTo_3 : decode cL_fallTo 3 = .ok (.iload_n 1, 1) := by decide +kernel
theorem dL_fallTo_4 : decode cL_fallTo 4 = .ok (.invokevirtual 72, 3) := by decide +kernel
theorem dL_fallTo_7 : decode cL_fallTo 7 = .ok (.i2l, 1) := by decide +kernel
theorem dL_fallTo_8 : decode cL_fallTo 8 = .ok (.lastore, 1) := by decide +kernel
theorem dL_fallTo_9 : decode cL_fallTo 9 = .ok (.goto 6, 3) := by decide +kernel
theorem dL_fallTo_12 : decode cL_fallTo 12 = .ok (.astore_n 3, 1) := by decide +kernel
theorem dL_fallTo_13 : decode cL_fallTo 13 = .ok (.iconst 1, 1) := by decide +kernel
theorem dL_fallTo_14 : decode cL_fallTo 14 = .ok (.ireturn, 1) := by decide +kernel
theorem dL_fallTo_15 : decode cL_fallTo 15 = .ok (.iconst 0, 1) := by decide +kernel
theorem dL_fallTo_16 : decode cL_fallTo 16 = .ok (.ireturn, 1) := by decide +kernel
theorem dL_open_0 : decode cL_open 0 = .ok (.aload_n 2, 1) := by decide +kernel
theorem dL_open_1 : decode cL_open 1 = .ok (.iconst 0, 1) := by decide +kernel
theorem dL_open_2 : decode cL_open 2 = .ok (.aload_n 0, 1) := by decide +kernel
theorem dL_open_3 : decode cL_open 3 = .ok (.iload_n 1, 1) := by decide +kernel
theorem dL_open_4 : decode cL_open 4 = .ok (.invokevirtual 75, 3) := by decide +kernel
theorem dL_open_7 : decode cL_open 7 = .ok (.i2l, 1) := by decide +kernel
theorem dL_open_8 : decode cL_open 8 = .ok (.lastore, 1) := by decide +kernel
theorem dL_open_9 : decode cL_open 9 = .ok (.goto 6, 3) := by decide +kernel
theorem dL_open_12 : decode cL_open 12 = .ok (.astore_n 3, 1) := by decide +kernel
theorem dL_open_13 : decode cL_open 13 = .ok (.iconst 1, 1) := by decide +kernel
theorem dL_open_14 : decode cL_open 14 = .ok (.ireturn, 1) := by decide +kernel
theorem dL_open_15 : decode cL_open 15 = .ok (.iconst 0, 1) := by decide +kernel
theorem dL_open_16 : decode cL_open 16 = .ok (.ireturn, 1) := by decide +kernel
theorem dL_cut_0 : decode cL_cut 0 = .ok (.aload_n 2, 1) := by decide +kernel
theorem dL_cut_1 : decode cL_cut 1 = .ok (.iconst 0, 1) := by decide +kernel
theorem dL_cut_2 : decode cL_cut 2 = .ok (.aload_n 0, 1) := by decide +kernel
theorem dL_cut_3 : decode cL_cut 3 = .ok (.iload_n 1, 1) := by decide +kernel
theorem dL_cut_4 : decode cL_cut 4 = .ok (.invokevirtual 78, 3) := by decide +kernel
theorem dL_cut_7 : decode cL_cut 7 = .ok (.i2l, 1) := by decide +kernel
theorem dL_cut_8 : decode cL_cut 8 = .ok (.lastore, 1) := by decide +kernel
theorem dL_cut_9 : decode cL_cut 9 = .ok (.goto 6, 3) := by decide +kernel
theorem dL_cut_12 : decode cL_cut 12 = .ok (.astore_n 3, 1) := by decide +kernel
theorem dL_cut_13 : decode cL_cut 13 = .ok (.iconst 1, 1) := by decide +kernel
theorem dL_cut_14 : decode cL_cut 14 = .ok (.ireturn, 1) := by decide +kernel
theorem dL_cut_15 : decode cL_cut 15 = .ok (.iconst 0, 1) := by decide +kernel
theorem dL_cut_16 : decode cL_cut 16 = .ok (.ireturn, 1) := by decide +kernel
theorem dL_steer_0 : decode cL_steer 0 = .ok (.aload_n 2, 1) := by decide +kernel
theorem dL_steer_1 : decode cL_steer 1 = .ok (.iconst 0, 1) := by decide +kernel
theorem dL_steer_2 : decode cL_steer 2 = .ok (.aload_n 0, 1) := by decide +kernel
theorem dL_steer_3 : decode cL_steer 3 = .ok (.iload_n 1, 1) := by decide +kernel
theorem dL_steer_4 : decode cL_steer 4 = .ok (.invokevirtual 81, 3) := by decide +kernel
theorem dL_steer_7 : decode cL_steer 7 = .ok (.i2l, 1) := by decide +kernel
theorem dL_steer_8 : decode cL_steer 8 = .ok (.lastore, 1) := by decide +kernel
theorem dL_steer_9 : decode cL_steer 9 = .ok (.goto 6, 3) := by decide +kernel
theorem dL_steer_12 : decode cL_steer 12 = .ok (.astore_n 3, 1) := by decide +kernel
theorem dL_steer_13 : decode cL_steer 13 = .ok (.iconst 1, 1) := by decide +kernel
theorem dL_steer_14 : decode cL_steer 14 = .ok (.ireturn, 1) := by decide +kernel
theorem dL_steer_15 : decode cL_steer 15 = .ok (.iconst 0, 1) := by decide +kernel
theorem dL_steer_16 : decode cL_steer 16 = .ok (.ireturn, 1) := by decide +kernel
theorem dL_setTarget_0 : decode cL_setTarget 0 = .ok (.aload_n 3, 1) := by decide +kernel
theorem dL_setTarget_1 : decode cL_setTarget 1 = .ok (.iconst 0, 1) := by decide +kernel
theorem dL_setTarget_2 : decode cL_setTarget 2 = .ok (.aload_n 0, 1) := by decide +kernel
theorem dL_setTarget_3 : decode cL_setTarget 3 = .ok (.iload_n 1, 1) := by decide +kernel
theorem dL_setTarget_4 : decode cL_setTarget 4 = .ok (.iload_n 2, 1) := by decide +kernel
theorem dL_setTarget_5 : decode cL_setTarget 5 = .ok (.invokevirtual 84, 3) := by decide +kernel
theorem dL_setTarget_8 : decode cL_setTarget 8 = .ok (.i2l, 1) := by decide +kernel
theorem dL_setTarget_9 : decode cL_setTarget 9 = .ok (.lastore, 1) := by decide +kernel
theorem dL_setTarget_10 : decode cL_setTarget 10 = .ok (.goto 7, 3) := by decide +kernel
theorem dL_setTarget_13 : decode cL_setTarget 13 = .ok (.astore 4, 2) := by decide +kernel
theorem dL_setTarget_15 : decode cL_setTarget 15 = .ok (.iconst 1, 1) := by decide +kernel
theorem dL_setTarget_16 : decode cL_setTarget 16 = .ok (.ireturn, 1) := by decide +kernel
theorem dL_setTarget_17 : decode cL_setTarget 17 = .ok (.iconst 0, 1) := by decide +kernel
theorem dL_setTarget_18 : decode cL_setTarget 18 = .ok (.ireturn, 1) := by decide +kernel
theorem dL_jam_0 : decode cL_jam 0 = .ok (.aload_n 3, 1) := by decide +kernel
theorem dL_jam_1 : decode cL_jam 1 = .ok (.iconst 0, 1) := by decide +kernel
theorem dL_jam_2 : decode cL_jam 2 = .ok (.aload_n 0, 1) := by decide +kernel
theorem dL_jam_3 : decode cL_jam 3 = .ok (.iload_n 1, 1) := by decide +kernel
theorem dL_jam_4 : decode cL_jam 4 = .ok (.iload_n 2, 1) := by decide +kernel
theorem dL_jam_5 : decode cL_jam 5 = .ok (.invokevirtual 87, 3) := by decide +kernel
theorem dL_jam_8 : decode cL_jam 8 = .ok (.i2l, 1) := by decide +kernel
theorem dL_jam_9 : decode cL_jam 9 = .ok (.lastore, 1) := by decide +kernel
theorem dL_jam_10 : decode cL_jam 10 = .ok (.goto 7, 3) := by decide +kernel
theorem dL_jam_13 : decode cL_jam 13 = .ok (.astore 4, 2) := by decide +kernel
theorem dL_jam_15 : decode cL_jam 15 = .ok (.iconst 1, 1) := by decide +kernel
theorem dL_jam_16 : decode cL_jam 16 = .ok (.ireturn, 1) := by decide +kernel
theorem dL_jam_17 : decode cL_jam 17 = .ok (.iconst 0, 1) := by decide +kernel
theorem dL_jam_18 : decode cL_jam 18 = .ok (.ireturn, 1) := by decide +kernel
theorem dL_output_0 : decode cL_output 0 = .ok (.aload_n 2, 1) := by decide +kernel
theorem dL_output_1 : decode cL_output 1 = .ok (.iconst 0, 1) := by decide +kernel
theorem dL_output_2 : decode cL_output 2 = .ok (.aload_n 0, 1) := by decide +kernel
theorem dL_output_3 : decode cL_output 3 = .ok (.iload_n 1, 1) := by decide +kernel
theorem dL_output_4 : decode cL_output 4 = .ok (.invokevirtual 91, 3) := by decide +kernel
theorem dL_output_7 : decode cL_output 7 = .ok (.i2l, 1) := by decide +kernel
theorem dL_output_8 : decode cL_output 8 = .ok (.lastore, 1) := by decide +kernel
theorem dL_output_9 : decode cL_output 9 = .ok (.goto 6, 3) := by decide +kernel
theorem dL_output_12 : decode cL_output 12 = .ok (.astore_n 3, 1) := by decide +kernel
theorem dL_output_13 : decode cL_output 13 = .ok (.iconst 1, 1) := by decide +kernel
theorem dL_output_14 : decode cL_output 14 = .ok (.ireturn, 1) := by decide +kernel
theorem dL_output_15 : decode cL_output 15 = .ok (.iconst 0, 1) := by decide +kernel
theorem dL_output_16 : decode cL_output 16 = .ok (.ireturn, 1) := by decide +kernel
theorem dL_undo_0 : decode cL_undo 0 = .ok (.aload_n 1, 1) := by decide +kernel
theorem dL_undo_1 : decode cL_undo 1 = .ok (.iconst 0, 1) := by decide +kernel
theorem dL_undo_2 : decode cL_undo 2 = .ok (.aload_n 0, 1) := by decide +kernel
theorem dL_undo_3 : decode cL_undo 3 = .ok (.invokevirtual 94, 3) := by decide +kernel
theorem dL_undo_6 : decode cL_undo 6 = .ok (.i2l, 1) := by decide +kernel
theorem dL_undo_7 : decode cL_undo 7 = .ok (.lastore, 1) := by decide +kernel
theorem dL_undo_8 : decode cL_undo 8 = .ok (.goto 6, 3) := by decide +kernel
theorem dL_undo_11 : decode cL_undo 11 = .ok (.astore_n 2, 1) := by decide +kernel
theorem dL_undo_12 : decode cL_undo 12 = .ok (.iconst 1, 1) := by decide +kernel
theorem dL_undo_13 : decode cL_undo 13 = .ok (.ireturn, 1) := by decide +kernel
theorem dL_undo_14 : decode cL_undo 14 = .ok (.iconst 0, 1) := by decide +kernel
theorem dL_undo_15 : decode cL_undo 15 = .ok (.ireturn, 1) := by decide +kernel
theorem dL_save_0 : decode cL_save 0 = .ok (.aload_n 2, 1) := by decide +kernel
theorem dL_save_1 : decode cL_save 1 = .ok (.iconst 0, 1) := by decide +kernel
theorem dL_save_2 : decode cL_save 2 = .ok (.aload_n 0, 1) := by decide +kernel
theorem dL_save_3 : decode cL_save 3 = .ok (.iload_n 1, 1) := by decide +kernel
theorem dL_save_4 : decode cL_save 4 = .ok (.invokevirtual 97, 3) := by decide +kernel
theorem dL_save_7 : decode cL_save 7 = .ok (.i2l, 1) := by decide +kernel
theorem dL_save_8 : decode cL_save 8 = .ok (.lastore, 1) := by decide +kernel
theorem dL_save_9 : decode cL_save 9 = .ok (.goto 6, 3) := by decide +kernel
theorem dL_save_12 : decode cL_save 12 = .ok (.astore_n 3, 1) := by decide +kernel
theorem dL_save_13 : decode cL_save 13 = .ok (.iconst 1, 1) := by decide +kernel
theorem dL_save_14 : decode cL_save 14 = .ok (.ireturn, 1) := by decide +kernel
theorem dL_save_15 : decode cL_save 15 = .ok (.iconst 0, 1) := by decide +kernel
theorem dL_save_16 : decode cL_save 16 = .ok (.ireturn, 1) := by decide +kernel
theorem dL_restore_0 : decode cL_restore 0 = .ok (.aload_n 2, 1) := by decide +kernel
theorem dL_restore_1 : decode cL_restore 1 = .ok (.iconst 0, 1) := by decide +kernel
theorem dL_restore_2 : decode cL_restore 2 = .ok (.aload_n 0, 1) := by decide +kernel
theorem dL_restore_3 : decode cL_restore 3 = .ok (.iload_n 1, 1) := by decide +kernel
theorem dL_restore_4 : decode cL_restore 4 = .ok (.invokevirtual 100, 3) := by decide +kernel
theorem dL_restore_7 : decode cL_restore 7 = .ok (.i2l, 1) := by decide +kernel
theorem dL_restore_8 : decode cL_restore 8 = .ok (.lastore, 1) := by decide +kernel
theorem dL_restore_9 : decode cL_restore 9 = .ok (.goto 9, 3) := by decide +kernel
theorem dL_restore_12 : decode cL_restore 12 = .ok (.astore_n 3, 1) := by decide +kernel
theorem dL_restore_13 : decode cL_restore 13 = .ok (.iconst 1, 1) := by decide +kernel
theorem dL_restore_14 : decode cL_restore 14 = .ok (.ireturn, 1) := by decide +kernel
theorem dL_restore_15 : decode cL_restore 15 = .ok (.astore_n 3, 1) := by decide +kernel
theorem dL_restore_16 : decode cL_restore 16 = .ok (.iconst 2, 1) := by decide +kernel
theorem dL_restore_17 : decode cL_restore 17 = .ok (.ireturn, 1) := by decide +kernel
theorem dL_restore_18 : decode cL_restore 18 = .ok (.iconst 0, 1) := by decide +kernel
theorem dL_restore_19 : decode cL_restore 19 = .ok (.ireturn, 1) := by decide +kernel
theorem dL_law_0 : decode cL_law 0 = .ok (.new 8, 3) := by decide +kernel
theorem dL_law_3 : decode cL_law 3 = .ok (.dup, 1) := by decide +kernel
theorem dL_law_4 : decode cL_law 4 = .ok (.invokespecial 103, 3) := by decide +kernel
theorem dL_law_7 : decode cL_law 7 = .ok (.astore_n 1, 1) := by decide +kernel
theorem dL_law_8 : decode cL_law 8 = .ok (.new 104, 3) := by decide +kernel
theorem dL_law_11 : decode cL_law 11 = .ok (.dup, 1) := by decide +kernel
theorem dL_law_12 : decode cL_law 12 = .ok (.invokespecial 106, 3) := by decide +kernel
theorem dL_law_15 : decode cL_law 15 = .ok (.astore_n 2, 1) := by decide +kernel
theorem dL_law_16 : decode cL_law 16 = .ok (.iconst 1, 1) := by decide +kernel
theorem dL_law_17 : decode cL_law 17 = .ok (.newarray .long, 2) := by decide +kernel
theorem dL_law_19 : decode cL_law 19 = .ok (.astore_n 3, 1) := by decide +kernel
theorem dL_law_20 : decode cL_law 20 = .ok (.iconst 0, 1) := by decide +kernel
theorem dL_law_21 : decode cL_law 21 = .ok (.istore 4, 2) := by decide +kernel
theorem dL_law_23 : decode cL_law 23 = .ok (.iload 4, 2) := by decide +kernel
theorem dL_law_25 : decode cL_law 25 = .ok (.aload_n 0, 1) := by decide +kernel
theorem dL_law_26 : decode cL_law 26 = .ok (.arraylength, 1) := by decide +kernel
theorem dL_law_27 : decode cL_law 27 = .ok (.bipush 6, 2) := by decide +kernel
theorem dL_law_29 : decode cL_law 29 = .ok (.isub, 1) := by decide +kernel
theorem dL_law_30 : decode cL_law 30 = .ok (.if_icmp .gt 2094, 3) := by decide +kernel
theorem dL_law_33 : decode cL_law 33 = .ok (.aload_n 0, 1) := by decide +kernel
theorem dL_law_34 : decode cL_law 34 = .ok (.iload 4, 2) := by decide +kernel
theorem dL_law_36 : decode cL_law 36 = .ok (.iaload, 1) := by decide +kernel
theorem dL_law_37 : decode cL_law 37 = .ok (.bipush 63, 2) := by decide +kernel
theorem dL_law_39 : decode cL_law 39 = .ok (.iand, 1) := by decide +kernel
theorem dL_law_40 : decode cL_law 40 = .ok (.tableswitch 2078 0 42 #[188, 292, 305, 318, 331, 344, 400, 456, 524, 592, 648, 704, 772, 840, 896, 909, 965, 978, 1034, 1090, 1133, 1174, 1187, 1231, 1244, 1257, 1313, 1326, 1339, 1395, 1408, 1464, 1520, 1576, 1589, 1645, 1701, 1769, 1853, 1866, 1922, 1966, 2022], 188) := by decide +kernel
theorem dL_law_228 : decode cL_law 228 = .ok (.aload_n 1, 1) := by decide +kernel
theorem dL_law_229 : decode cL_law 229 = .ok (.aload_n 0, 1) := by decide +kernel
theorem dL_law_230 : decode cL_law 230 = .ok (.iload 4, 2) := by decide +kernel
theorem dL_law_232 : decode cL_law 232 = .ok (.iconst 1, 1) := by decide +kernel
theorem dL_law_233 : decode cL_law 233 = .ok (.iadd, 1) := by decide +kernel
theorem dL_law_234 : decode cL_law 234 = .ok (.iaload, 1) := by decide +kernel
theorem dL_law_235 : decode cL_law 235 = .ok (.aload_n 0, 1) := by decide +kernel
theorem dL_law_236 : decode cL_law 236 = .ok (.iload 4, 2) := by decide +kernel
theorem dL_law_238 : decode cL_law 238 = .ok (.iconst 2, 1) := by decide +kernel
theorem dL_law_239 : decode cL_law 239 = .ok (.iadd, 1) := by decide +kernel
theorem dL_law_240 : decode cL_law 240 = .ok (.iaload, 1) := by decide +kernel
theorem dL_law_241 : decode cL_law 241 = .ok (.aload_n 0, 1) := by decide +kernel
theorem dL_law_242 : decode cL_law 242 = .ok (.iload 4, 2) := by decide +kernel
theorem dL_law_244 : decode cL_law 244 = .ok (.iconst 3, 1) := by decide +kernel
theorem dL_law_245 : decode cL_law 245 = .ok (.iadd, 1) := by decide +kernel
theorem dL_law_246 : decode cL_law 246 = .ok (.iaload, 1) := by decide +kernel
theorem dL_law_247 : decode cL_law 247 = .ok (.aload_n 0, 1) := by decide +kernel
theorem dL_law_248 : decode cL_law 248 = .ok (.iload 4, 2) := by decide +kernel
theorem dL_law_250 : decode cL_law 250 = .ok (.iconst 4, 1) := by decide +kernel
theorem dL_law_251 : decode cL_law 251 = .ok (.iadd, 1) := by decide +kernel
theorem dL_law_252 : decode cL_law 252 = .ok (.iaload, 1) := by decide +kernel
theorem dL_law_253 : decode cL_law 253 = .ok (.aload_n 0, 1) := by decide +kernel
theorem dL_law_254 : decode cL_law 254 = .ok (.iload 4, 2) := by decide +kernel
theorem dL_law_256 : decode cL_law 256 = .ok (.iconst 5, 1) := by decide +kernel
theorem dL_law_257 : decode cL_law 257 = .ok (.iadd, 1) := by decide +kernel
theorem dL_law_258 : decode cL_law 258 = .ok (.iaload, 1) := by decide +kernel
theorem dL_law_259 : decode cL_law 259 = .ok (.aload_n 3, 1) := by decide +kernel
theorem dL_law_260 : decode cL_law 260 = .ok (.invokestatic 107, 3) := by decide +kernel
theorem dL_law_263 : decode cL_law 263 = .ok (.istore 5, 2) := by decide +kernel
theorem dL_law_265 : decode cL_law 265 = .ok (.aload_n 2, 1) := by decide +kernel
theorem dL_law_266 : decode cL_law 266 = .ok (.aload_n 0, 1) := by decide +kernel
theorem dL_law_267 : decode cL_law 267 = .ok (.iload 4, 2) := by decide +kernel
theorem dL_law_269 : decode cL_law 269 = .ok (.iconst 1, 1) := by decide +kernel
theorem dL_law_270 : decode cL_law 270 = .ok (.iadd, 1) := by decide +kernel
theorem dL_law_271 : decode cL_law 271 = .ok (.iaload, 1) := by decide +kernel
theorem dL_law_272 : decode cL_law 272 = .ok (.aload_n 0, 1) := by decide +kernel
theorem dL_law_273 : decode cL_law 273 = .ok (.iload 4, 2) := by decide +kernel
theorem dL_law_275 : decode cL_law 275 = .ok (.iconst 2, 1) := by decide +kernel
theorem dL_law_276 : decode cL_law 276 = .ok (.iadd, 1) := by decide +kernel
theorem dL_law_277 : decode cL_law 277 = .ok (.iaload, 1) := by decide +kernel
theorem dL_law_278 : decode cL_law 278 = .ok (.aload_n 0, 1) := by decide +kernel
theorem dL_law_279 : decode cL_law 279 = .ok (.iload 4, 2) := by decide +kernel
theorem dL_law_281 : decode cL_law 281 = .ok (.iconst 3, 1) := by decide +kernel
theorem dL_law_282 : decode cL_law 282 = .ok (.iadd, 1) := by decide +kernel
theorem dL_law_283 : decode cL_law 283 = .ok (.iaload, 1) := by decide +kernel
theorem dL_law_284 : decode cL_law 284 = .ok (.aload_n 0, 1) := by decide +kernel
theorem dL_law_285 : decode cL_law 285 = .ok (.iload 4, 2) := by decide +kernel
theorem dL_law_287 : decode cL_law 287 = .ok (.iconst 4, 1) := by decide +kernel
theorem dL_law_288 : decode cL_law 288 = .ok (.iadd, 1) := by decide +kernel
theorem dL_law_289 : decode cL_law 289 = .ok (.iaload, 1) := by decide +kernel
theorem dL_law_290 : decode cL_law 290 = .ok (.aload_n 0, 1) := by decide +kernel
theorem dL_law_291 : decode cL_law 291 = .ok (.iload 4, 2) := by decide +kernel
theorem dL_law_293 : decode cL_law 293 = .ok (.iconst 5, 1) := by decide +kernel
theorem dL_law_294 : decode cL_law 294 = .ok (.iadd, 1) := by decide +kernel
theorem dL_law_295 : decode cL_law 295 = .ok (.iaload, 1) := by decide +kernel
theorem dL_law_296 : decode cL_law 296 = .ok (.invokevirtual 112, 3) := by decide +kernel
theorem dL_law_299 : decode cL_law 299 = .ok (.istore 6, 2) := by decide +kernel
theorem dL_law_301 : decode cL_law 301 = .ok (.aload_n 2, 1) := by decide +kernel
theorem dL_law_302 : decode cL_law 302 = .ok (.invokevirtual 113, 3) := by decide +kernel
theorem dL_law_305 : decode cL_law 305 = .ok (.iload 5, 2) := by decide +kernel
theorem dL_law_307 : decode cL_law 307 = .ok (.if_icmp .eq 5, 3) := by decide +kernel
theorem dL_law_310 : decode cL_law 310 = .ok (.iconst 0, 1) := by decide +kernel
theorem dL_law_311 : decode cL_law 311 = .ok (.ireturn, 1) := by decide +kernel
theorem dL_law_312 : decode cL_law 312 = .ok (.iload 5, 2) := by decide +kernel
theorem dL_law_314 : decode cL_law 314 = .ok (.ifCond .ne 15, 3) := by decide +kernel
theorem dL_law_317 : decode cL_law 317 = .ok (.aload_n 3, 1) := by decide +kernel
theorem dL_law_318 : decode cL_law 318 = .ok (.iconst 0, 1) := by decide +kernel
theorem dL_law_319 : decode cL_law 319 = .ok (.laload, 1) := by decide +kernel
theorem dL_law_320 : decode cL_law 320 = .ok (.iload 6, 2) := by decide +kernel
theorem dL_law_322 : decode cL_law 322 = .ok (.i2l, 1) := by decide +kernel
theorem dL_law_323 : decode cL_law 323 = .ok (.lcmp, 1) := by decide +kernel
theorem dL_law_324 : decode cL_law 324 = .ok (.ifCond .eq 5, 3) := by decide +kernel
theorem dL_law_327 : decode cL_law 327 = .ok (.iconst 0, 1) := by decide +kernel
theorem dL_law_328 : decode cL_law 328 = .ok (.ireturn, 1) := by decide +kernel
theorem dL_law_329 : decode cL_law 329 = .ok (.goto 1789, 3) := by decide +kernel
theorem dL_law_332 : decode cL_law 332 = .ok (.aload_n 1, 1) := by decide +kernel
theorem dL_law_333 : decode cL_law 333 = .ok (.invokevirtual 116, 3) := by decide +kernel
theorem dL_law_336 : decode cL_law 336 = .ok (.aload_n 2, 1) := by decide +kernel
theorem dL_law_337 : decode cL_law 337 = .ok (.invokevirtual 119, 3) := by decide +kernel
theorem dL_law_340 : decode cL_law 340 = .ok (.if_icmp .eq 1778, 3) := by decide +kernel
theorem dL_law_343 : decode cL_law 343 = .ok (.iconst 0, 1) := by decide +kernel
theorem dL_law_344 : decode cL_law 344 = .ok (.ireturn, 1) := by decide +kernel
theorem dL_law_345 : decode cL_law 345 = .ok (.aload_n 1, 1) := by decide +kernel
theorem dL_law_346 : decode cL_law 346 = .ok (.invokevirtual 120, 3) := by decide +kernel
theorem dL_law_349 : decode cL_law 349 = .ok (.aload_n 2, 1) := by decide +kernel
theorem dL_law_350 : decode cL_law 350 = .ok (.invokevirtual 123, 3) := by decide +kernel
theorem dL_law_353 : decode cL_law 353 = .ok (.if_icmp .eq 1765, 3) := by decide +kernel
theorem dL_law_356 : decode cL_law 356 = .ok (.iconst 0, 1) := by decide +kernel
theorem dL_law_357 : decode cL_law 357 = .ok (.ireturn, 1) := by decide +kernel
theorem dL_law_358 : decode cL_law 358 = .ok (.aload_n 1, 1) := by decide +kernel
theorem dL_law_359 : decode cL_law 359 = .ok (.invokevirtual 124, 3) := by decide +kernel
theorem dL_law_362 : decode cL_law 362 = .ok (.aload_n 2, 1) := by decide +kernel
theorem dL_law_363 : decode cL_law 363 = .ok (.invokevirtual 127, 3) := by decide +kernel
theorem dL_law_366 : decode cL_law 366 = .ok (.if_icmp .eq 1752, 3) := by decide +kernel
theorem dL_law_369 : decode cL_law 369 = .ok (.iconst 0, 1) := by decide +kernel
theorem dL_law_370 : decode cL_law 370 = .ok (.ireturn, 1) := by decide +kernel
theorem dL_law_371 : decode cL_law 371 = .ok (.aload_n 1, 1) := by decide +kernel
theorem dL_law_372 : decode cL_law 372 = .ok (.invokevirtual 128, 3) := by decide +kernel
theorem dL_law_375 : decode cL_law 375 = .ok (.aload_n 2, 1) := by decide +kernel
theorem dL_law_376 : decode cL_law 376 = .ok (.invokevirtual 131, 3) := by decide +kernel
theorem dL_law_379 : decode cL_law 379 = .ok (.if_icmp .eq 1739, 3) := by decide +kernel
theorem dL_law_382 : decode cL_law 382 = .ok (.iconst 0, 1) := by decide +kernel
theorem dL_law_383 : decode cL_law 383 = .ok (.ireturn, 1) := by decide +kernel
theorem dL_law_384 : decode cL_law 384 = .ok (.aload_n 1, 1) := by decide +kernel
theorem dL_law_385 : decode cL_law 385 = .ok (.aload_n 0, 1) := by decide +kernel
theorem dL_law_386 : decode cL_law 386 = .ok (.iload 4, 2) := by decide +kernel
theorem dL_law_388 : decode cL_law 388 = .ok (.iconst 1, 1) := by decide +kernel
theorem dL_law_389 : decode cL_law 389 = .ok (.iadd, 1) := by decide +kernel
theorem dL_law_390 : decode cL_law 390 = .ok (.iaload, 1) := by decide +kernel
theorem dL_law_391 : decode cL_law 391 = .ok (.aload_n 3, 1) := by decide +kernel
theorem dL_law_392 : decode cL_law 392 = .ok (.invokestatic 132, 3) := by decide +kernel
theorem dL_law_395 : decode cL_law 395 = .ok (.istore 5, 2) := by decide +kernel
theorem dL_law_397 : decode cL_law 397 = .ok (.aload_n 2, 1) := by decide +kernel
theorem dL_law_398 : decode cL_law 398 = .ok (.aload_n 0, 1) := by decide +kernel
theorem dL_law_399 : decode cL_law 399 = .ok (.iload 4, 2) := by decide +kernel
theorem dL_law_401 : decode cL_law 401 = .ok (.iconst 1, 1) := by decide +kernel
theorem dL_law_402 : decode cL_law 402 = .ok (.iadd, 1) := by decide +kernel
theorem dL_law_403 : decode cL_law 403 = .ok (.iaload, 1) := by decide +kernel
theorem dL_law_404 : decode cL_law 404 = .ok (.invokevirtual 135, 3) := by decide +kernel
theorem dL_law_407 : decode cL_law 407 = .ok (.istore 6, 2) := by decide +kernel
theorem dL_law_409 : decode cL_law 409 = .ok (.aload_n 2, 1) := by decide +kernel
theorem dL_law_410 : decode cL_law 410 = .ok (.invokevirtual 113, 3) := by decide +kernel
theorem dL_law_413 : decode cL_law 413 = .ok (.iload 5, 2) := by decide +kernel
theorem dL_law_415 : decode cL_law 415 = .ok (.if_icmp .eq 5, 3) := by decide +kernel
theorem dL_law_418 : decode cL_law 418 = .ok (.iconst 0, 1) := by decide +kernel
theorem dL_law_419 : decode cL_law 419 = .ok (.ireturn, 1) := by decide +kernel
theorem dL_law_420 : decode cL_law 420 = .ok (.iload 5, 2) := by decide +kernel
theorem dL_law_422 : decode cL_law 422 = .ok (.ifCond .ne 15, 3) := by decide +kernel
theorem dL_law_425 : decode cL_law 425 = .ok (.aload_n 3, 1) := by decide +kernel
theorem dL_law_426 : decode cL_law 426 = .ok (.iconst 0, 1) := by decide +kernel
theorem dL_law_427 : decode cL_law 427 = .ok (.laload, 1) := by decide +kernel
theorem dL_law_428 : decode cL_law 428 = .ok (.iload 6, 2) := by decide +kernel
theorem dL_law_430 : decode cL_law 430 = .ok (.i2l, 1) := by decide +kernel
theorem dL_law_431 : decode cL_law 431 = .ok (.lcmp, 1) := by decide +kernel
theorem dL_law_432 : decode cL_law 432 = .ok (.ifCond .eq 5, 3) := by decide +kernel
theorem dL_law_435 : decode cL_law 435 = .ok (.iconst 0, 1) := by decide +kernel
theorem dL_law_436 : decode cL_law 436 = .ok (.ireturn, 1) := by decide +kernel
theorem dL_law_437 : decode cL_law 437 = .ok (.goto 1681, 3) := by decide +kernel
theorem dL_law_440 : decode cL_law 440 = .ok (.aload_n 1, 1) := by decide +kernel
theorem dL_law_441 : decode cL_law 441 = .ok (.aload_n 0, 1) := by decide +kernel
theorem dL_law_442 : decode cL_law 442 = .ok (.iload 4, 2) := by decide +kernel
theorem dL_law_444 : decode cL_law 444 = .ok (.iconst 1, 1) := by decide +kernel
theorem dL_law_445 : decode cL_law 445 = .ok (.iadd, 1) := by decide +kernel
theorem dL_law_446 : decode cL_law 446 = .ok (.iaload, 1) := by decide +kernel
theorem dL_law_447 : decode cL_law 447 = .ok (.aload_n 3, 1) := by decide +kernel
theorem dL_law_448 : decode cL_law 448 = .ok (.invokestatic 136, 3) := by decide +kernel
theorem dL_law_451 : decode cL_law 451 = .ok (.istore 5, 2) := by decide +kernel
theorem dL_law_453 : decode cL_law 453 = .ok (.aload_n 2, 1) := by decide +kernel
theorem dL_law_454 : decode cL_law 454 = .ok (.aload_n 0, 1) := by decide +kernel
theorem dL_law_455 : decode cL_law 455 = .ok (.iload 4, 2) := by decide +kernel
theorem dL_law_457 : decode cL_law 457 = .ok (.iconst 1, 1) := by decide +kernel
theorem dL_law_458 : decode cL_law 458 = .ok (.iadd, 1) := by decide +kernel
theorem dL_law_459 : decode cL_law 459 = .ok (.iaload, 1) := by decide +kernel
theorem dL_law_460 : decode cL_law 460 = .ok (.invokevirtual 138, 3) := by decide +kernel
theorem dL_law_463 : decode cL_law 463 = .ok (.istore 6, 2) := by decide +kernel
theorem dL_law_465 : decode cL_law 465 = .ok (.aload_n 2, 1) := by decide +kernel
theorem dL_law_466 : decode cL_law 466 = .ok (.invokevirtual 113, 3) := by decide +kernel
theorem dL_law_469 : decode cL_law 469 = .ok (.iload 5, 2) := by decide +kernel
theorem dL_law_471 : decode cL_law 471 = .ok (.if_icmp .eq 5, 3) := by decide +kernel
theorem dL_law_474 : decode cL_law 474 = .ok (.iconst 0, 1) := by decide +kernel
theorem dL_law_475 : decode cL_law 475 = .ok (.ireturn, 1) := by decide +kernel
theorem dL_law_476 : decode cL_law 476 = .ok (.iload 5, 2) := by decide +kernel
theorem dL_law_478 : decode cL_law 478 = .ok (.ifCond .ne 15, 3) := by decide +kernel
theorem dL_law_481 : decode cL_law 481 = .ok (.aload_n 3, 1) := by decide +kernel
theorem dL_law_482 : decode cL_law 482 = .ok (.iconst 0, 1) := by decide +kernel
theorem dL_law_483 : decode cL_law 483 = .ok (.laload, 1) := by decide +kernel
theorem dL_law_484 : decode cL_law 484 = .ok (.iload 6, 2) := by decide +kernel
theorem dL_law_486 : decode cL_law 486 = .ok (.i2l, 1) := by decide +kernel
theorem dL_law_487 : decode cL_law 487 = .ok (.lcmp, 1) := by decide +kernel
theorem dL_law_488 : decode cL_law 488 = .ok (.ifCond .eq 5, 3) := by decide +kernel
theorem dL_law_491 : decode cL_law 491 = .ok (.iconst 0, 1) := by decide +kernel
theorem dL_law_492 : decode cL_law 492 = .ok (.ireturn, 1) := by decide +kernel
theorem dL_law_493 : decode cL_law 493 = .ok (.goto 1625, 3) := by decide +kernel
theorem dL_law_496 : decode cL_law 496 = .ok (.aload_n 1, 1) := by decide +kernel
theorem dL_law_497 : decode cL_law 497 = .ok (.aload_n 0, 1) := by decide +kernel
theorem dL_law_498 : decode cL_law 498 = .ok (.iload 4, 2) := by decide +kernel
theorem dL_law_500 : decode cL_law 500 = .ok (.iconst 1, 1) := by decide +kernel
theorem dL_law_501 : decode cL_law 501 = .ok (.iadd, 1) := by decide +kernel
theorem dL_law_502 : decode cL_law 502 = .ok (.iaload, 1) := by decide +kernel
theorem dL_law_503 : decode cL_law 503 = .ok (.aload_n 0, 1) := by decide +kernel
theorem dL_law_504 : decode cL_law 504 = .ok (.iload 4, 2) := by decide +kernel
theorem dL_law_506 : decode cL_law 506 = .ok (.iconst 2, 1) := by decide +kernel
theorem dL_law_507 : decode cL_law 507 = .ok (.iadd, 1) := by decide +kernel
theorem dL_law_508 : decode cL_law 508 = .ok (.iaload, 1) := by decide +kernel
theorem dL_law_509 : decode cL_law 509 = .ok (.aload_n 3, 1) := by decide +kernel
theorem dL_law_510 : decode cL_law 510 = .ok (.invokestatic 139, 3) := by decide +kernel
theorem dL_law_513 : decode cL_law 513 = .ok (.istore 5, 2) := by decide +kernel
theorem dL_law_515 : decode cL_law 515 = .ok (.aload_n 2, 1) := by decide +kernel
theorem dL_law_516 : decode cL_law 516 = .ok (.aload_n 0, 1) := by decide +kernel
theorem dL_law_517 : decode cL_law 517 = .ok (.iload 4, 2) := by decide +kernel
theorem dL_law_519 : decode cL_law 519 = .ok (.iconst 1, 1) := by decide +kernel
theorem dL_law_520 : decode cL_law 520 = .ok (.iadd, 1) := by decide +kernel
theorem dL_law_521 : decode cL_law 521 = .ok (.iaload, 1) := by decide +kernel
theorem dL_law_522 : decode cL_law 522 = .ok (.aload_n 0, 1) := by decide +kernel
theorem dL_law_523 : decode cL_law 523 = .ok (.iload 4, 2) := by decide +kernel
theorem dL_law_525 : decode cL_law 525 = .ok (.iconst 2, 1) := by decide +kernel
theorem dL_law_526 : decode cL_law 526 = .ok (.iadd, 1) := by decide +kernel
theorem dL_law_527 : decode cL_law 527 = .ok (.iaload, 1) := by decide +kernel
theorem dL_law_528 : decode cL_law 528 = .ok (.invokevirtual 142, 3) := by decide +kernel
theorem dL_law_531 : decode cL_law 531 = .ok (.istore 6, 2) := by decide +kernel
theorem dL_law_533 : decode cL_law 533 = .ok (.aload_n 2, 1) := by decide +kernel
theorem dL_law_534 : decode cL_law 534 = .ok (.invokevirtual 113, 3) := by decide +kernel
theorem dL_law_537 : decode cL_law 537 = .ok (.iload 5, 2) := by decide +kernel
theorem dL_law_539 : decode cL_law 539 = .ok (.if_icmp .eq 5, 3) := by decide +kernel
theorem dL_law_542 : decode cL_law 542 = .ok (.iconst 0, 1) := by decide +kernel
theorem dL_law_543 : decode cL_law 543 = .ok (.ireturn, 1) := by decide +kernel
theorem dL_law_544 : decode cL_law 544 = .ok (.iload 5, 2) := by decide +kernel
theorem dL_law_546 : decode cL_law 546 = .ok (.ifCond .ne 15, 3) := by decide +kernel
theorem dL_law_549 : decode cL_law 549 = .ok (.aload_n 3, 1) := by decide +kernel
theorem dL_law_550 : decode cL_law 550 = .ok (.iconst 0, 1) := by decide +kernel
theorem dL_law_551 : decode cL_law 551 = .ok (.laload, 1) := by decide +kernel
theorem dL_law_552 : decode cL_law 552 = .ok (.iload 6, 2) := by decide +kernel
theorem dL_law_554 : decode cL_law 554 = .ok (.i2l, 1) := by decide +kernel
theorem dL_law_555 : decode cL_law 555 = .ok (.lcmp, 1) := by decide +kernel
theorem dL_law_556 : decode cL_law 556 = .ok (.ifCond .eq 5, 3) := by decide +kernel
theorem dL_law_559 : decode cL_law 559 = .ok (.iconst 0, 1) := by decide +kernel
theorem dL_law_560 : decode cL_law 560 = .ok (.ireturn, 1) := by decide +kernel
theorem dL_law_561 : decode cL_law 561 = .ok (.goto 1557, 3) := by decide +kernel
theorem dL_law_564 : decode cL_law 564 = .ok (.aload_n 1, 1) := by decide +kernel
theorem dL_law_565 : decode cL_law 565 = .ok (.aload_n 0, 1) := by decide +kernel
theorem dL_law_566 : decode cL_law 566 = .ok (.iload 4, 2) := by decide +kernel
theorem dL_law_568 : decode cL_law 568 = .ok (.iconst 1, 1) := by decide +kernel
theorem dL_law_569 : decode cL_law 569 = .ok (.iadd, 1) := by decide +kernel
theorem dL_law_570 : decode cL_law 570 = .ok (.iaload, 1) := by decide +kernel
theorem dL_law_571 : decode cL_law 571 = .ok (.aload_n 0, 1) := by decide +kernel
theorem dL_law_572 : decode cL_law 572 = .ok (.iload 4, 2) := by decide +kernel
theorem dL_law_574 : decode cL_law 574 = .ok (.iconst 2, 1) := by decide +kernel
theorem dL_law_575 : decode cL_law 575 = .ok (.iadd, 1) := by decide +kernel
theorem dL_law_576 : decode cL_law 576 = .ok (.iaload, 1) := by decide +kernel
theorem dL_law_577 : decode cL_law 577 = .ok (.aload_n 3, 1) := by decide +kernel
theorem dL_law_578 : decode cL_law 578 = .ok (.invokestatic 143, 3) := by decide +kernel
theorem dL_law_581 : decode cL_law 581 = .ok (.istore 5, 2) := by decide +kernel
theorem dL_law_583 : decode cL_law 583 = .ok (.aload_n 2, 1) := by decide +kernel
theorem dL_law_584 : decode cL_law 584 = .ok (.aload_n 0, 1) := by decide +kernel
theorem dL_law_585 : decode cL_law 585 = .ok (.iload 4, 2) := by decide +kernel
theorem dL_law_587 : decode cL_law 587 = .ok (.iconst 1, 1) := by decide +kernel
theorem dL_law_588 : decode cL_law 588 = .ok (.iadd, 1) := by decide +kernel
theorem dL_law_589 : decode cL_law 589 = .ok (.iaload, 1) := by decide +kernel
theorem dL_law_590 : decode cL_law 590 = .ok (.aload_n 0, 1) := by decide +kernel
theorem dL_law_591 : decode cL_law 591 = .ok (.iload 4, 2) := by decide +kernel
theorem dL_law_593 : decode cL_law 593 = .ok (.iconst 2, 1) := by decide +kernel
theorem dL_law_594 : decode cL_law 594 = .ok (.iadd, 1) := by decide +kernel
theorem dL_law_595 : decode cL_law 595 = .ok (.iaload, 1) := by decide +kernel
theorem dL_law_596 : decode cL_law 596 = .ok (.invokevirtual 145, 3) := by decide +kernel
theorem dL_law_599 : decode cL_law 599 = .ok (.istore 6, 2) := by decide +kernel
theorem dL_law_601 : decode cL_law 601 = .ok (.aload_n 2, 1) := by decide +kernel
theorem dL_law_602 : decode cL_law 602 = .ok (.invokevirtual 113, 3) := by decide +kernel
theorem dL_law_605 : decode cL_law 605 = .ok (.iload 5, 2) := by decide +kernel
theorem dL_law_607 : decode cL_law 607 = .ok (.if_icmp .eq 5, 3) := by decide +kernel
theorem dL_law_610 : decode cL_law 610 = .ok (.iconst 0, 1) := by decide +kernel
theorem dL_law_611 : decode cL_law 611 = .ok (.ireturn, 1) := by decide +kernel
theorem dL_law_612 : decode cL_law 612 = .ok (.iload 5, 2) := by decide +kernel
theorem dL_law_614 : decode cL_law 614 = .ok (.ifCond .ne 15, 3) := by decide +kernel
theorem dL_law_617 : decode cL_law 617 = .ok (.aload_n 3, 1) := by decide +kernel
theorem dL_law_618 : decode cL_law 618 = .ok (.iconst 0, 1) := by decide +kernel
theorem dL_law_619 : decode cL_law 619 = .ok (.laload, 1) := by decide +kernel
theorem dL_law_620 : decode cL_law 620 = .ok (.iload 6, 2) := by decide +kernel
theorem dL_law_622 : decode cL_law 622 = .ok (.i2l, 1) := by decide +kernel
theorem dL_law_623 : decode cL_law 623 = .ok (.lcmp, 1) := by decide +kernel
theorem dL_law_624 : decode cL_law 624 = .ok (.ifCond .eq 5, 3) := by decide +kernel
theorem dL_law_627 : decode cL_law 627 = .ok (.iconst 0, 1) := by decide +kernel
theorem dL_law_628 : decode cL_law 628 = .ok (.ireturn, 1) := by decide +kernel
theorem dL_law_629 : decode cL_law 629 = .ok (.goto 1489, 3) := by decide +kernel
theorem dL_law_632 : decode cL_law 632 = .ok (.aload_n 1, 1) := by decide +kernel
theorem dL_law_633 : decode cL_law 633 = .ok (.aload_n 0, 1) := by decide +kernel
theorem dL_law_634 : decode cL_law 634 = .ok (.iload 4, 2) := by decide +kernel
theorem dL_law_636 : decode cL_law 636 = .ok (.iconst 1, 1) := by decide +kernel
theorem dL_law_637 : decode cL_law 637 = .ok (.iadd, 1) := by decide +kernel
theorem dL_law_638 : decode cL_law 638 = .ok (.iaload, 1) := by decide +kernel
theorem dL_law_639 : decode cL_law 639 = .ok (.aload_n 3, 1) := by decide +kernel
theorem dL_law_640 : decode cL_law 640 = .ok (.invokestatic 146, 3) := by decide +kernel
theorem dL_law_643 : decode cL_law 643 = .ok (.istore 5, 2) := by decide +kernel
theorem dL_law_645 : decode cL_law 645 = .ok (.aload_n 2, 1) := by decide +kernel
theorem dL_law_646 : decode cL_law 646 = .ok (.aload_n 0, 1) := by decide +kernel
theorem dL_law_647 : decode cL_law 647 = .ok (.iload 4, 2) := by decide +kernel
theorem dL_law_649 : decode cL_law 649 = .ok (.iconst 1, 1) := by decide +kernel
theorem dL_law_650 : decode cL_law 650 = .ok (.iadd, 1) := by decide +kernel
theorem dL_law_651 : decode cL_law 651 = .ok (.iaload, 1) := by decide +kernel
theorem dL_law_652 : decode cL_law 652 = .ok (.invokevirtual 148, 3) := by decide +kernel
theorem dL_law_655 : decode cL_law 655 = .ok (.istore 6, 2) := by decide +kernel
theorem dL_law_657 : decode cL_law 657 = .ok (.aload_n 2, 1) := by decide +kernel
theorem dL_law_658 : decode cL_law 658 = .ok (.invokevirtual 113, 3) := by decide +kernel
theorem dL_law_661 : decode cL_law 661 = .ok (.iload 5, 2) := by decide +kernel
theorem dL_law_663 : decode cL_law 663 = .ok (.if_icmp .eq 5, 3) := by decide +kernel
theorem dL_law_666 : decode cL_law 666 = .ok (.iconst 0, 1) := by decide +kernel
theorem dL_law_667 : decode cL_law 667 = .ok (.ireturn, 1) := by decide +kernel
theorem dL_law_668 : decode cL_law 668 = .ok (.iload 5, 2) := by decide +kernel
theorem dL_law_670 : decode cL_law 670 = .ok (.ifCond .ne 15, 3) := by decide +kernel
theorem dL_law_673 : decode cL_law 673 = .ok (.aload_n 3, 1) := by decide +kernel
theorem dL_law_674 : decode cL_law 674 = .ok (.iconst 0, 1) := by decide +kernel
theorem dL_law_675 : decode cL_law 675 = .ok (.laload, 1) := by decide +kernel
theorem dL_law_676 : decode cL_law 676 = .ok (.iload 6, 2) := by decide +kernel
theorem dL_law_678 : decode cL_law 678 = .ok (.i2l, 1) := by decide +kernel
theorem dL_law_679 : decode cL_law 679 = .ok (.lcmp, 1) := by decide +kernel
theorem dL_law_680 : decode cL_law 680 = .ok (.ifCond .eq 5, 3) := by decide +kernel
theorem dL_law_683 : decode cL_law 683 = .ok (.iconst 0, 1) := by decide +kernel
theorem dL_law_684 : decode cL_law 684 = .ok (.ireturn, 1) := by decide +kernel
theorem dL_law_685 : decode cL_law 685 = .ok (.goto 1433, 3) := by decide +kernel
theorem dL_law_688 : decode cL_law 688 = .ok (.aload_n 1, 1) := by decide +kernel
theorem dL_law_689 : decode cL_law 689 = .ok (.aload_n 0, 1) := by decide +kernel
theorem dL_law_690 : decode cL_law 690 = .ok (.iload 4, 2) := by decide +kernel
theorem dL_law_692 : decode cL_law 692 = .ok (.iconst 1, 1) := by decide +kernel
theorem dL_law_693 : decode cL_law 693 = .ok (.iadd, 1) := by decide +kernel
theorem dL_law_694 : decode cL_law 694 = .ok (.iaload, 1) := by decide +kernel
theorem dL_law_695 : decode cL_law 695 = .ok (.aload_n 3, 1) := by decide +kernel
theorem dL_law_696 : decode cL_law 696 = .ok (.invokestatic 149, 3) := by decide +kernel
theorem dL_law_699 : decode cL_law 699 = .ok (.istore 5, 2) := by decide +kernel
theorem dL_law_701 : decode cL_law 701 = .ok (.aload_n 2, 1) := by decide +kernel
theorem dL_law_702 : decode cL_law 702 = .ok (.aload_n 0, 1) := by decide +kernel
theorem dL_law_703 : decode cL_law 703 = .ok (.iload 4, 2) := by decide +kernel
theorem dL_law_705 : decode cL_law 705 = .ok (.iconst 1, 1) := by decide +kernel
theorem dL_law_706 : decode cL_law 706 = .ok (.iadd, 1) := by decide +kernel
theorem dL_law_707 : decode cL_law 707 = .ok (.iaload, 1) := by decide +kernel
theorem dL_law_708 : decode cL_law 708 = .ok (.invokevirtual 151, 3) := by decide +kernel
theorem dL_law_711 : decode cL_law 711 = .ok (.istore 6, 2) := by decide +kernel
theorem dL_law_713 : decode cL_law 713 = .ok (.aload_n 2, 1) := by decide +kernel
theorem dL_law_714 : decode cL_law 714 = .ok (.invokevirtual 113, 3) := by decide +kernel
theorem dL_law_717 : decode cL_law 717 = .ok (.iload 5, 2) := by decide +kernel
theorem dL_law_719 : decode cL_law 719 = .ok (.if_icmp .eq 5, 3) := by decide +kernel
theorem dL_law_722 : decode cL_law 722 = .ok (.iconst 0, 1) := by decide +kernel
theorem dL_law_723 : decode cL_law 723 = .ok (.ireturn, 1) := by decide +kernel
theorem dL_law_724 : decode cL_law 724 = .ok (.iload 5, 2) := by decide +kernel
theorem dL_law_726 : decode cL_law 726 = .ok (.ifCond .ne 15, 3) := by decide +kernel
theorem dL_law_729 : decode cL_law 729 = .ok (.aload_n 3, 1) := by decide +kernel
theorem dL_law_730 : decode cL_law 730 = .ok (.iconst 0, 1) := by decide +kernel
theorem dL_law_731 : decode cL_law 731 = .ok (.laload, 1) := by decide +kernel
theorem dL_law_732 : decode cL_law 732 = .ok (.iload 6, 2) := by decide +kernel
theorem dL_law_734 : decode cL_law 734 = .ok (.i2l, 1) := by decide +kernel
theorem dL_law_735 : decode cL_law 735 = .ok (.lcmp, 1) := by decide +kernel
theorem dL_law_736 : decode cL_law 736 = .ok (.ifCond .eq 5, 3) := by decide +kernel
theorem dL_law_739 : decode cL_law 739 = .ok (.iconst 0, 1) := by decide +kernel
theorem dL_law_740 : decode cL_law 740 = .ok (.ireturn, 1) := by decide +kernel
theorem dL_law_741 : decode cL_law 741 = .ok (.goto 1377, 3) := by decide +kernel
theorem dL_law_744 : decode cL_law 744 = .ok (.aload_n 1, 1) := by decide +kernel
theorem dL_law_745 : decode cL_law 745 = .ok (.aload_n 0, 1) := by decide +kernel
theorem dL_law_746 : decode cL_law 746 = .ok (.iload 4, 2) := by decide +kernel
theorem dL_law_748 : decode cL_law 748 = .ok (.iconst 1, 1) := by decide +kernel
theorem dL_law_749 : decode cL_law 749 = .ok (.iadd, 1) := by decide +kernel
theorem dL_law_750 : decode cL_law 750 = .ok (.iaload, 1) := by decide +kernel
theorem dL_law_751 : decode cL_law 751 = .ok (.aload_n 0, 1) := by decide +kernel
theorem dL_law_752 : decode cL_law 752 = .ok (.iload 4, 2) := by decide +kernel
theorem dL_law_754 : decode cL_law 754 = .ok (.iconst 2, 1) := by decide +kernel
theorem dL_law_755 : decode cL_law 755 = .ok (.iadd, 1) := by decide +kernel
theorem dL_law_756 : decode cL_law 756 = .ok (.iaload, 1) := by decide +kernel
theorem dL_law_757 : decode cL_law 757 = .ok (.aload_n 3, 1) := by decide +kernel
theorem dL_law_758 : decode cL_law 758 = .ok (.invokestatic 152, 3) := by decide +kernel
theorem dL_law_761 : decode cL_law 761 = .ok (.istore 5, 2) := by decide +kernel
theorem dL_law_763 : decode cL_law 763 = .ok (.aload_n 2, 1) := by decide +kernel
theorem dL_law_764 : decode cL_law 764 = .ok (.aload_n 0, 1) := by decide +kernel
theorem dL_law_765 : decode cL_law 765 = .ok (.iload 4, 2) := by decide +kernel
theorem dL_law_767 : decode cL_law 767 = .ok (.iconst 1, 1) := by decide +kernel
theorem dL_law_768 : decode cL_law 768 = .ok (.iadd, 1) := by decide +kernel
theorem dL_law_769 : decode cL_law 769 = .ok (.iaload, 1) := by decide +kernel
theorem dL_law_770 : decode cL_law 770 = .ok (.aload_n 0, 1) := by decide +kernel
theorem dL_law_771 : decode cL_law 771 = .ok (.iload 4, 2) := by decide +kernel
theorem dL_law_773 : decode cL_law 773 = .ok (.iconst 2, 1) := by decide +kernel
theorem dL_law_774 : decode cL_law 774 = .ok (.iadd, 1) := by decide +kernel
theorem dL_law_775 : decode cL_law 775 = .ok (.iaload, 1) := by decide +kernel
theorem dL_law_776 : decode cL_law 776 = .ok (.invokevirtual 154, 3) := by decide +kernel
theorem dL_law_779 : decode cL_law 779 = .ok (.istore 6, 2) := by decide +kernel
theorem dL_law_781 : decode cL_law 781 = .ok (.aload_n 2, 1) := by decide +kernel
theorem dL_law_782 : decode cL_law 782 = .ok (.invokevirtual 113, 3) := by decide +kernel
theorem dL_law_785 : decode cL_law 785 = .ok (.iload 5, 2) := by decide +kernel
theorem dL_law_787 : decode cL_law 787 = .ok (.if_icmp .eq 5, 3) := by decide +kernel
theorem dL_law_790 : decode cL_law 790 = .ok (.iconst 0, 1) := by decide +kernel
theorem dL_law_791 : decode cL_law 791 = .ok (.ireturn, 1) := by decide +kernel
theorem dL_law_792 : decode cL_law 792 = .ok (.iload 5, 2) := by decide +kernel
theorem dL_law_794 : decode cL_law 794 = .ok (.ifCond .ne 15, 3) := by decide +kernel
theorem dL_law_797 : decode cL_law 797 = .ok (.aload_n 3, 1) := by decide +kernel
theorem dL_law_798 : decode cL_law 798 = .ok (.iconst 0, 1) := by decide +kernel
theorem dL_law_799 : decode cL_law 799 = .ok (.laload, 1) := by decide +kernel
theorem dL_law_800 : decode cL_law 800 = .ok (.iload 6, 2) := by decide +kernel
theorem dL_law_802 : decode cL_law 802 = .ok (.i2l, 1) := by decide +kernel
theorem dL_law_803 : decode cL_law 803 = .ok (.lcmp, 1) := by decide +kernel
theorem dL_law_804 : decode cL_law 804 = .ok (.ifCond .eq 5, 3) := by decide +kernel
theorem dL_law_807 : decode cL_law 807 = .ok (.iconst 0, 1) := by decide +kernel
theorem dL_law_808 : decode cL_law 808 = .ok (.ireturn, 1) := by decide +kernel
theorem dL_law_809 : decode cL_law 809 = .ok (.goto 1309, 3) := by decide +kernel
theorem dL_law_812 : decode cL_law 812 = .ok (.aload_n 1, 1) := by decide +kernel
theorem dL_law_813 : decode cL_law 813 = .ok (.aload_n 0, 1) := by decide +kernel
theorem dL_law_814 : decode cL_law 814 = .ok (.iload 4, 2) := by decide +kernel
theorem dL_law_816 : decode cL_law 816 = .ok (.iconst 1, 1) := by decide +kernel
theorem dL_law_817 : decode cL_law 817 = .ok (.iadd, 1) := by decide +kernel
theorem dL_law_818 : decode cL_law 818 = .ok (.iaload, 1) := by decide +kernel
theorem dL_law_819 : decode cL_law 819 = .ok (.aload_n 0, 1) := by decide +kernel
theorem dL_law_820 : decode cL_law 820 = .ok (.iload 4, 2) := by decide +kernel
theorem dL_law_822 : decode cL_law 822 = .ok (.iconst 2, 1) := by decide +kernel
theorem dL_law_823 : decode cL_law 823 = .ok (.iadd, 1) := by decide +kernel
theorem dL_law_824 : decode cL_law 824 = .ok (.iaload, 1) := by decide +kernel
theorem dL_law_825 : decode cL_law 825 = .ok (.aload_n 3, 1) := by decide +kernel
theorem dL_law_826 : decode cL_law 826 = .ok (.invokestatic 155, 3) := by decide +kernel
theorem dL_law_829 : decode cL_law 829 = .ok (.istore 5, 2) := by decide +kernel
theorem dL_law_831 : decode cL_law 831 = .ok (.aload_n 2, 1) := by decide +kernel
theorem dL_law_832 : decode cL_law 832 = .ok (.aload_n 0, 1) := by decide +kernel
theorem dL_law_833 : decode cL_law 833 = .ok (.iload 4, 2) := by decide +kernel
theorem dL_law_835 : decode cL_law 835 = .ok (.iconst 1, 1) := by decide +kernel
theorem dL_law_836 : decode cL_law 836 = .ok (.iadd, 1) := by decide +kernel
theorem dL_law_837 : decode cL_law 837 = .ok (.iaload, 1) := by decide +kernel
theorem dL_law_838 : decode cL_law 838 = .ok (.aload_n 0, 1) := by decide +kernel
theorem dL_law_839 : decode cL_law 839 = .ok (.iload 4, 2) := by decide +kernel
theorem dL_law_841 : decode cL_law 841 = .ok (.iconst 2, 1) := by decide +kernel
theorem dL_law_842 : decode cL_law 842 = .ok (.iadd, 1) := by decide +kernel
theorem dL_law_843 : decode cL_law 843 = .ok (.iaload, 1) := by decide +kernel
theorem dL_law_844 : decode cL_law 844 = .ok (.invokevirtual 157, 3) := by decide +kernel
theorem dL_law_847 : decode cL_law 847 = .ok (.istore 6, 2) := by decide +kernel
theorem dL_law_849 : decode cL_law 849 = .ok (.aload_n 2, 1) := by decide +kernel
theorem dL_law_850 : decode cL_law 850 = .ok (.invokevirtual 113, 3) := by decide +kernel
theorem dL_law_853 : decode cL_law 853 = .ok (.iload 5, 2) := by decide +kernel
theorem dL_law_855 : decode cL_law 855 = .ok (.if_icmp .eq 5, 3) := by decide +kernel
theorem dL_law_858 : decode cL_law 858 = .ok (.iconst 0, 1) := by decide +kernel
theorem dL_law_859 : decode cL_law 859 = .ok (.ireturn, 1) := by decide +kernel
theorem dL_law_860 : decode cL_law 860 = .ok (.iload 5, 2) := by decide +kernel
theorem dL_law_862 : decode cL_law 862 = .ok (.ifCond .ne 15, 3) := by decide +kernel
theorem dL_law_865 : decode cL_law 865 = .ok (.aload_n 3, 1) := by decide +kernel
theorem dL_law_866 : decode cL_law 866 = .ok (.iconst 0, 1) := by decide +kernel
theorem dL_law_867 : decode cL_law 867 = .ok (.laload, 1) := by decide +kernel
theorem dL_law_868 : decode cL_law 868 = .ok (.iload 6, 2) := by decide +kernel
theorem dL_law_870 : decode cL_law 870 = .ok (.i2l, 1) := by decide +kernel
theorem dL_law_871 : decode cL_law 871 = .ok (.lcmp, 1) := by decide +kernel
theorem dL_law_872 : decode cL_law 872 = .ok (.ifCond .eq 5, 3) := by decide +kernel
theorem dL_law_875 : decode cL_law 875 = .ok (.iconst 0, 1) := by decide +kernel
theorem dL_law_876 : decode cL_law 876 = .ok (.ireturn, 1) := by decide +kernel
theorem dL_law_877 : decode cL_law 877 = .ok (.goto 1241, 3) := by decide +kernel
theorem dL_law_880 : decode cL_law 880 = .ok (.aload_n 1, 1) := by decide +kernel
theorem dL_law_881 : decode cL_law 881 = .ok (.aload_n 0, 1) := by decide +kernel
theorem dL_law_882 : decode cL_law 882 = .ok (.iload 4, 2) := by decide +kernel
theorem dL_law_884 : decode cL_law 884 = .ok (.iconst 1, 1) := by decide +kernel
theorem dL_law_885 : decode cL_law 885 = .ok (.iadd, 1) := by decide +kernel
theorem dL_law_886 : decode cL_law 886 = .ok (.iaload, 1) := by decide +kernel
theorem dL_law_887 : decode cL_law 887 = .ok (.aload_n 3, 1) := by decide +kernel
theorem dL_law_888 : decode cL_law 888 = .ok (.invokestatic 158, 3) := by decide +kernel
theorem dL_law_891 : decode cL_law 891 = .ok (.istore 5, 2) := by decide +kernel
theorem dL_law_893 : decode cL_law 893 = .ok (.aload_n 2, 1) := by decide +kernel
theorem dL_law_894 : decode cL_law 894 = .ok (.aload_n 0, 1) := by decide +kernel
theorem dL_law_895 : decode cL_law 895 = .ok (.iload 4, 2) := by decide +kernel
theorem dL_law_897 : decode cL_law 897 = .ok (.iconst 1, 1) := by decide +kernel
theorem dL_law_898 : decode cL_law 898 = .ok (.iadd, 1) := by decide +kernel
theorem dL_law_899 : decode cL_law 899 = .ok (.iaload, 1) := by decide +kernel
theorem dL_law_900 : decode cL_law 900 = .ok (.invokevirtual 160, 3) := by decide +kernel
theorem dL_law_903 : decode cL_law 903 = .ok (.istore 6, 2) := by decide +kernel
theorem dL_law_905 : decode cL_law 905 = .ok (.aload_n 2, 1) := by decide +kernel
theorem dL_law_906 : decode cL_law 906 = .ok (.invokevirtual 113, 3) := by decide +kernel
theorem dL_law_909 : decode cL_law 909 = .ok (.iload 5, 2) := by decide +kernel
theorem dL_law_911 : decode cL_law 911 = .ok (.if_icmp .eq 5, 3) := by decide +kernel
theorem dL_law_914 : decode cL_law 914 = .ok (.iconst 0, 1) := by decide +kernel
theorem dL_law_915 : decode cL_law 915 = .ok (.ireturn, 1) := by decide +kernel
theorem dL_law_916 : decode cL_law 916 = .ok (.iload 5, 2) := by decide +kernel
theorem dL_law_918 : decode cL_law 918 = .ok (.ifCond .ne 15, 3) := by decide +kernel
theorem dL_law_921 : decode cL_law 921 = .ok (.aload_n 3, 1) := by decide +kernel
theorem dL_law_922 : decode cL_law 922 = .ok (.iconst 0, 1) := by decide +kernel
theorem dL_law_923 : decode cL_law 923 = .ok (.laload, 1) := by decide +kernel
theorem dL_law_924 : decode cL_law 924 = .ok (.iload 6, 2) := by decide +kernel
theorem dL_law_926 : decode cL_law 926 = .ok (.i2l, 1) := by decide +kernel
theorem dL_law_927 : decode cL_law 927 = .ok (.lcmp, 1) := by decide +kernel
theorem dL_law_928 : decode cL_law 928 = .ok (.ifCond .eq 5, 3) := by decide +kernel
theorem dL_law_931 : decode cL_law 931 = .ok (.iconst 0, 1) := by decide +kernel
theorem dL_law_932 : decode cL_law 932 = .ok (.ireturn, 1) := by decide +kernel
theorem dL_law_933 : decode cL_law 933 = .ok (.goto 1185, 3) := by decide +kernel
theorem dL_law_936 : decode cL_law 936 = .ok (.aload_n 1, 1) := by decide +kernel
theorem dL_law_937 : decode cL_law 937 = .ok (.invokevirtual 161, 3) := by decide +kernel
theorem dL_law_940 : decode cL_law 940 = .ok (.aload_n 2, 1) := by decide +kernel
theorem dL_law_941 : decode cL_law 941 = .ok (.invokevirtual 165, 3) := by decide +kernel
theorem dL_law_944 : decode cL_law 944 = .ok (.if_icmp .eq 1174, 3) := by decide +kernel
theorem dL_law_947 : decode cL_law 947 = .ok (.iconst 0, 1) := by decide +kernel
theorem dL_law_948 : decode cL_law 948 = .ok (.ireturn, 1) := by decide +kernel
theorem dL_law_949 : decode cL_law 949 = .ok (.aload_n 1, 1) := by decide +kernel
theorem dL_law_950 : decode cL_law 950 = .ok (.aload_n 0, 1) := by decide +kernel
theorem dL_law_951 : decode cL_law 951 = .ok (.iload 4, 2) := by decide +kernel
theorem dL_law_953 : decode cL_law 953 = .ok (.iconst 1, 1) := by decide +kernel
theorem dL_law_954 : decode cL_law 954 = .ok (.iadd, 1) := by decide +kernel
theorem dL_law_955 : decode cL_law 955 = .ok (.iaload, 1) := by decide +kernel
theorem dL_law_956 : decode cL_law 956 = .ok (.aload_n 3, 1) := by decide +kernel
theorem dL_law_957 : decode cL_law 957 = .ok (.invokestatic 166, 3) := by decide +kernel
theorem dL_law_960 : decode cL_law 960 = .ok (.istore 5, 2) := by decide +kernel
theorem dL_law_962 : decode cL_law 962 = .ok (.aload_n 2, 1) := by decide +kernel
theorem dL_law_963 : decode cL_law 963 = .ok (.aload_n 0, 1) := by decide +kernel
theorem dL_law_964 : decode cL_law 964 = .ok (.iload 4, 2) := by decide +kernel
theorem dL_law_966 : decode cL_law 966 = .ok (.iconst 1, 1) := by decide +kernel
theorem dL_law_967 : decode cL_law 967 = .ok (.iadd, 1) := by decide +kernel
theorem dL_law_968 : decode cL_law 968 = .ok (.iaload, 1) := by decide +kernel
theorem dL_law_969 : decode cL_law 969 = .ok (.invokevirtual 168, 3) := by decide +kernel
theorem dL_law_972 : decode cL_law 972 = .ok (.istore 6, 2) := by decide +kernel
theorem dL_law_974 : decode cL_law 974 = .ok (.aload_n 2, 1) := by decide +kernel
theorem dL_law_975 : decode cL_law 975 = .ok (.invokevirtual 113, 3) := by decide +kernel
theorem dL_law_978 : decode cL_law 978 = .ok (.iload 5, 2) := by decide +kernel
theorem dL_law_980 : decode cL_law 980 = .ok (.if_icmp .eq 5, 3) := by decide +kernel
theorem dL_law_983 : decode cL_law 983 = .ok (.iconst 0, 1) := by decide +kernel
theorem dL_law_984 : decode cL_law 984 = .ok (.ireturn, 1) := by decide +kernel
theorem dL_law_985 : decode cL_law 985 = .ok (.iload 5, 2) := by decide +kernel
theorem dL_law_987 : decode cL_law 987 = .ok (.ifCond .ne 15, 3) := by decide +kernel
theorem dL_law_990 : decode cL_law 990 = .ok (.aload_n 3, 1) := by decide +kernel
theorem dL_law_991 : decode cL_law 991 = .ok (.iconst 0, 1) := by decide +kernel
theorem dL_law_992 : decode cL_law 992 = .ok (.laload, 1) := by decide +kernel
theorem dL_law_993 : decode cL_law 993 = .ok (.iload 6, 2) := by decide +kernel
theorem dL_law_995 : decode cL_law 995 = .ok (.i2l, 1) := by decide +kernel
theorem dL_law_996 : decode cL_law 996 = .ok (.lcmp, 1) := by decide +kernel
theorem dL_law_997 : decode cL_law 997 = .ok (.ifCond .eq 5, 3) := by decide +kernel
theorem dL_law_1000 : decode cL_law 1000 = .ok (.iconst 0, 1) := by decide +kernel
theorem dL_law_1001 : decode cL_law 1001 = .ok (.ireturn, 1) := by decide +kernel
theorem dL_law_1002 : decode cL_law 1002 = .ok (.goto 1116, 3) := by decide +kernel
theorem dL_law_1005 : decode cL_law 1005 = .ok (.aload_n 1, 1) := by decide +kernel
theorem dL_law_1006 : decode cL_law 1006 = .ok (.invokevirtual 169, 3) := by decide +kernel
theorem dL_law_1009 : decode cL_law 1009 = .ok (.aload_n 2, 1) := by decide +kernel
theorem dL_law_1010 : decode cL_law 1010 = .ok (.invokevirtual 172, 3) := by decide +kernel
theorem dL_law_1013 : decode cL_law 1013 = .ok (.if_icmp .eq 1105, 3) := by decide +kernel
theorem dL_law_1016 : decode cL_law 1016 = .ok (.iconst 0, 1) := by decide +kernel
theorem dL_law_1017 : decode cL_law 1017 = .ok (.ireturn, 1) := by decide +kernel
theorem dL_law_1018 : decode cL_law 1018 = .ok (.aload_n 1, 1) := by decide +kernel
theorem dL_law_1019 : decode cL_law 1019 = .ok (.aload_n 0, 1) := by decide +kernel
theorem dL_law_1020 : decode cL_law 1020 = .ok (.iload 4, 2) := by decide +kernel
theorem dL_law_1022 : decode cL_law 1022 = .ok (.iconst 1, 1) := by decide +kernel
theorem dL_law_1023 : decode cL_law 1023 = .ok (.iadd, 1) := by decide +kernel
theorem dL_law_1024 : decode cL_law 1024 = .ok (.iaload, 1) := by decide +kernel
theorem dL_law_1025 : decode cL_law 1025 = .ok (.aload_n 3, 1) := by decide +kernel
theorem dL_law_1026 : decode cL_law 1026 = .ok (.invokestatic 173, 3) := by decide +kernel
theorem dL_law_1029 : decode cL_law 1029 = .ok (.istore 5, 2) := by decide +kernel
theorem dL_law_1031 : decode cL_law 1031 = .ok (.aload_n 2, 1) := by decide +kernel
theorem dL_law_1032 : decode cL_law 1032 = .ok (.aload_n 0, 1) := by decide +kernel
theorem dL_law_1033 : decode cL_law 1033 = .ok (.iload 4, 2) := by decide +kernel
theorem dL_law_1035 : decode cL_law 1035 = .ok (.iconst 1, 1) := by decide +kernel
theorem dL_law_1036 : decode cL_law 1036 = .ok (.iadd, 1) := by decide +kernel
theorem dL_law_1037 : decode cL_law 1037 = .ok (.iaload, 1) := by decide +kernel
theorem dL_law_1038 : decode cL_law 1038 = .ok (.invokevirtual 175, 3) := by decide +kernel
theorem dL_law_1041 : decode cL_law 1041 = .ok (.istore 6, 2) := by decide +kernel
theorem dL_law_1043 : decode cL_law 1043 = .ok (.aload_n 2, 1) := by decide +kernel
theorem dL_law_1044 : decode cL_law 1044 = .ok (.invokevirtual 113, 3) := by decide +kernel
theorem dL_law_1047 : decode cL_law 1047 = .ok (.iload 5, 2) := by decide +kernel
theorem dL_law_1049 : decode cL_law 1049 = .ok (.if_icmp .eq 5, 3) := by decide +kernel
theorem dL_law_1052 : decode cL_law 1052 = .ok (.iconst 0, 1) := by decide +kernel
theorem dL_law_1053 : decode cL_law 1053 = .ok (.ireturn, 1) := by decide +kernel
theorem dL_law_1054 : decode cL_law 1054 = .ok (.iload 5, 2) := by decide +kernel
theorem dL_law_1056 : decode cL_law 1056 = .ok (.ifCond .ne 15, 3) := by decide +kernel
theorem dL_law_1059 : decode cL_law 1059 = .ok (.aload_n 3, 1) := by decide +kernel
theorem dL_law_1060 : decode cL_law 1060 = .ok (.iconst 0, 1) := by decide +kernel
theorem dL_law_1061 : decode cL_law 1061 = .ok (.laload, 1) := by decide +kernel
theorem dL_law_1062 : decode cL_law 1062 = .ok (.iload 6, 2) := by decide +kernel
theorem dL_law_1064 : decode cL_law 1064 = .ok (.i2l, 1) := by decide +kernel
theorem dL_law_1065 : decode cL_law 1065 = .ok (.lcmp, 1) := by decide +kernel
theorem dL_law_1066 : decode cL_law 1066 = .ok (.ifCond .eq 5, 3) := by decide +kernel
theorem dL_law_1069 : decode cL_law 1069 = .ok (.iconst 0, 1) := by decide +kernel
theorem dL_law_1070 : decode cL_law 1070 = .ok (.ireturn, 1) := by decide +kernel
theorem dL_law_1071 : decode cL_law 1071 = .ok (.goto 1047, 3) := by decide +kernel
theorem dL_law_1074 : decode cL_law 1074 = .ok (.aload_n 1, 1) := by decide +kernel
theorem dL_law_1075 : decode cL_law 1075 = .ok (.aload_n 0, 1) := by decide +kernel
theorem dL_law_1076 : decode cL_law 1076 = .ok (.iload 4, 2) := by decide +kernel
theorem dL_law_1078 : decode cL_law 1078 = .ok (.iconst 1, 1) := by decide +kernel
theorem dL_law_1079 : decode cL_law 1079 = .ok (.iadd, 1) := by decide +kernel
theorem dL_law_1080 : decode cL_law 1080 = .ok (.iaload, 1) := by decide +kernel
theorem dL_law_1081 : decode cL_law 1081 = .ok (.aload_n 3, 1) := by decide +kernel
theorem dL_law_1082 : decode cL_law 1082 = .ok (.invokestatic 176, 3) := by decide +kernel
theorem dL_law_1085 : decode cL_law 1085 = .ok (.istore 5, 2) := by decide +kernel
theorem dL_law_1087 : decode cL_law 1087 = .ok (.aload_n 2, 1) := by decide +kernel
theorem dL_law_1088 : decode cL_law 1088 = .ok (.aload_n 0, 1) := by decide +kernel
theorem dL_law_1089 : decode cL_law 1089 = .ok (.iload 4, 2) := by decide +kernel
theorem dL_law_1091 : decode cL_law 1091 = .ok (.iconst 1, 1) := by decide +kernel
theorem dL_law_1092 : decode cL_law 1092 = .ok (.iadd, 1) := by decide +kernel
theorem dL_law_1093 : decode cL_law 1093 = .ok (.iaload, 1) := by decide +kernel
theorem dL_law_1094 : decode cL_law 1094 = .ok (.invokevirtual 178, 3) := by decide +kernel
theorem dL_law_1097 : decode cL_law 1097 = .ok (.istore 6, 2) := by decide +kernel
theorem dL_law_1099 : decode cL_law 1099 = .ok (.aload_n 2, 1) := by decide +kernel
theorem dL_law_1100 : decode cL_law 1100 = .ok (.invokevirtual 113, 3) := by decide +kernel
theorem dL_law_1103 : decode cL_law 1103 = .ok (.iload 5, 2) := by decide +kernel
theorem dL_law_1105 : decode cL_law 1105 = .ok (.if_icmp .eq 5, 3) := by decide +kernel
theorem dL_law_1108 : decode cL_law 1108 = .ok (.iconst 0, 1) := by decide +kernel
theorem dL_law_1109 : decode cL_law 1109 = .ok (.ireturn, 1) := by decide +kernel
theorem dL_law_1110 : decode cL_law 1110 = .ok (.iload 5, 2) := by decide +kernel
theorem dL_law_1112 : decode cL_law 1112 = .ok (.ifCond .ne 15, 3) := by decide +kernel
theorem dL_law_1115 : decode cL_law 1115 = .ok (.aload_n 3, 1) := by decide +kernel
theorem dL_law_1116 : decode cL_law 1116 = .ok (.iconst 0, 1) := by decide +kernel
theorem dL_law_1117 : decode cL_law 1117 = .ok (.laload, 1) := by decide +kernel
theorem dL_law_1118 : decode cL_law 1118 = .ok (.iload 6, 2) := by decide +kernel
theorem dL_law_1120 : decode cL_law 1120 = .ok (.i2l, 1) := by decide +kernel
theorem dL_law_1121 : decode cL_law 1121 = .ok (.lcmp, 1) := by decide +kernel
theorem dL_law_1122 : decode cL_law 1122 = .ok (.ifCond .eq 5, 3) := by decide +kernel
theorem dL_law_1125 : decode cL_law 1125 = .ok (.iconst 0, 1) := by decide +kernel
theorem dL_law_1126 : decode cL_law 1126 = .ok (.ireturn, 1) := by decide +kernel
theorem dL_law_1127 : decode cL_law 1127 = .ok (.goto 991, 3) := by decide +kernel
theorem dL_law_1130 : decode cL_law 1130 = .ok (.aload_n 1, 1) := by decide +kernel
theorem dL_law_1131 : decode cL_law 1131 = .ok (.invokevirtual 179, 3) := by decide +kernel
theorem dL_law_1134 : decode cL_law 1134 = .ok (.f2d, 1) := by decide +kernel
theorem dL_law_1135 : decode cL_law 1135 = .ok (.dstore 5, 2) := by decide +kernel
theorem dL_law_1137 : decode cL_law 1137 = .ok (.aload_n 2, 1) := by decide +kernel
theorem dL_law_1138 : decode cL_law 1138 = .ok (.invokevirtual 183, 3) := by decide +kernel
theorem dL_law_1141 : decode cL_law 1141 = .ok (.f2d, 1) := by decide +kernel
theorem dL_law_1142 : decode cL_law 1142 = .ok (.dstore 7, 2) := by decide +kernel
theorem dL_law_1144 : decode cL_law 1144 = .ok (.dload 5, 2) := by decide +kernel
theorem dL_law_1146 : decode cL_law 1146 = .ok (.dload 7, 2) := by decide +kernel
theorem dL_law_1148 : decode cL_law 1148 = .ok (.dcmp .l, 1) := by decide +kernel
theorem dL_law_1149 : decode cL_law 1149 = .ok (.ifCond .eq 21, 3) := by decide +kernel
theorem dL_law_1152 : decode cL_law 1152 = .ok (.dload 5, 2) := by decide +kernel
theorem dL_law_1154 : decode cL_law 1154 = .ok (.dload 5, 2) := by decide +kernel
theorem dL_law_1156 : decode cL_law 1156 = .ok (.dcmp .l, 1) := by decide +kernel
theorem dL_law_1157 : decode cL_law 1157 = .ok (.ifCond .eq 11, 3) := by decide +kernel
theorem dL_law_1160 : decode cL_law 1160 = .ok (.dload 7, 2) := by decide +kernel
theorem dL_law_1162 : decode cL_law 1162 = .ok (.dload 7, 2) := by decide +kernel
theorem dL_law_1164 : decode cL_law 1164 = .ok (.dcmp .l, 1) := by decide +kernel
theorem dL_law_1165 : decode cL_law 1165 = .ok (.ifCond .ne 5, 3) := by decide +kernel
theorem dL_law_1168 : decode cL_law 1168 = .ok (.iconst 0, 1) := by decide +kernel
theorem dL_law_1169 : decode cL_law 1169 = .ok (.ireturn, 1) := by decide +kernel
theorem dL_law_1170 : decode cL_law 1170 = .ok (.goto 948, 3) := by decide +kernel
theorem dL_law_1173 : decode cL_law 1173 = .ok (.aload_n 1, 1) := by decide +kernel
theorem dL_law_1174 : decode cL_law 1174 = .ok (.invokevirtual 184, 3) := by decide +kernel
theorem dL_law_1177 : decode cL_law 1177 = .ok (.dstore 5, 2) := by decide +kernel
theorem dL_law_1179 : decode cL_law 1179 = .ok (.aload_n 2, 1) := by decide +kernel
theorem dL_law_1180 : decode cL_law 1180 = .ok (.invokevirtual 188, 3) := by decide +kernel
theorem dL_law_1183 : decode cL_law 1183 = .ok (.dstore 7, 2) := by decide +kernel
theorem dL_law_1185 : decode cL_law 1185 = .ok (.dload 5, 2) := by decide +kernel
theorem dL_law_1187 : decode cL_law 1187 = .ok (.dload 7, 2) := by decide +kernel
theorem dL_law_1189 : decode cL_law 1189 = .ok (.dcmp .l, 1) := by decide +kernel
theorem dL_law_1190 : decode cL_law 1190 = .ok (.ifCond .eq 21, 3) := by decide +kernel
theorem dL_law_1193 : decode cL_law 1193 = .ok (.dload 5, 2) := by decide +kernel
theorem dL_law_1195 : decode cL_law 1195 = .ok (.dload 5, 2) := by decide +kernel
theorem dL_law_1197 : decode cL_law 1197 = .ok (.dcmp .l, 1) := by decide +kernel
theorem dL_law_1198 : decode cL_law 1198 = .ok (.ifCond .eq 11, 3) := by decide +kernel
theorem dL_law_1201 : decode cL_law 1201 = .ok (.dload 7, 2) := by decide +kernel
theorem dL_law_1203 : decode cL_law 1203 = .ok (.dload 7, 2) := by decide +kernel
theorem dL_law_1205 : decode cL_law 1205 = .ok (.dcmp .l, 1) := by decide +kernel
theorem dL_law_1206 : decode cL_law 1206 = .ok (.ifCond .ne 5, 3) := by decide +kernel
theorem dL_law_1209 : decode cL_law 1209 = .ok (.iconst 0, 1) := by decide +kernel
theorem dL_law_1210 : decode cL_law 1210 = .ok (.ireturn, 1) := by decide +kernel
theorem dL_law_1211 : decode cL_law 1211 = .ok (.goto 907, 3) := by decide +kernel
theorem dL_law_1214 : decode cL_law 1214 = .ok (.aload_n 1, 1) := by decide +kernel
theorem dL_law_1215 : decode cL_law 1215 = .ok (.invokevirtual 189, 3) := by decide +kernel
theorem dL_law_1218 : decode cL_law 1218 = .ok (.aload_n 2, 1) := by decide +kernel
theorem dL_law_1219 : decode cL_law 1219 = .ok (.invokevirtual 192, 3) := by decide +kernel
theorem dL_law_1222 : decode cL_law 1222 = .ok (.if_icmp .eq 896, 3) := by decide +kernel
theorem dL_law_1225 : decode cL_law 1225 = .ok (.iconst 0, 1) := by decide +kernel
theorem dL_law_1226 : decode cL_law 1226 = .ok (.ireturn, 1) := by decide +kernel
theorem dL_law_1227 : decode cL_law 1227 = .ok (.aload_n 1, 1) := by decide +kernel
theorem dL_law_1228 : decode cL_law 1228 = .ok (.aload_n 3, 1) := by decide +kernel
theorem dL_law_1229 : decode cL_law 1229 = .ok (.invokestatic 193, 3) := by decide +kernel
theorem dL_law_1232 : decode cL_law 1232 = .ok (.istore 5, 2) := by decide +kernel
theorem dL_law_1234 : decode cL_law 1234 = .ok (.aload_n 2, 1) := by decide +kernel
theorem dL_law_1235 : decode cL_law 1235 = .ok (.invokevirtual 196, 3) := by decide +kernel
theorem dL_law_1238 : decode cL_law 1238 = .ok (.istore 6, 2) := by decide +kernel
theorem dL_law_1240 : decode cL_law 1240 = .ok (.aload_n 2, 1) := by decide +kernel
theorem dL_law_1241 : decode cL_law 1241 = .ok (.invokevirtual 113, 3) := by decide +kernel
theorem dL_law_1244 : decode cL_law 1244 = .ok (.iload 5, 2) := by decide +kernel
theorem dL_law_1246 : decode cL_law 1246 = .ok (.if_icmp .eq 5, 3) := by decide +kernel
theorem dL_law_1249 : decode cL_law 1249 = .ok (.iconst 0, 1) := by decide +kernel
theorem dL_law_1250 : decode cL_law 1250 = .ok (.ireturn, 1) := by decide +kernel
theorem dL_law_1251 : decode cL_law 1251 = .ok (.iload 5, 2) := by decide +kernel
theorem dL_law_1253 : decode cL_law 1253 = .ok (.ifCond .ne 15, 3) := by decide +kernel
theorem dL_law_1256 : decode cL_law 1256 = .ok (.aload_n 3, 1) := by decide +kernel
theorem dL_law_1257 : decode cL_law 1257 = .ok (.iconst 0, 1) := by decide +kernel
theorem dL_law_1258 : decode cL_law 1258 = .ok (.laload, 1) := by decide +kernel
theorem dL_law_1259 : decode cL_law 1259 = .ok (.iload 6, 2) := by decide +kernel
theorem dL_law_1261 : decode cL_law 1261 = .ok (.i2l, 1) := by decide +kernel
theorem dL_law_1262 : decode cL_law 1262 = .ok (.lcmp, 1) := by decide +kernel
theorem dL_law_1263 : decode cL_law 1263 = .ok (.ifCond .eq 5, 3) := by decide +kernel
theorem dL_law_1266 : decode cL_law 1266 = .ok (.iconst 0, 1) := by decide +kernel
theorem dL_law_1267 : decode cL_law 1267 = .ok (.ireturn, 1) := by decide +kernel
theorem dL_law_1268 : decode cL_law 1268 = .ok (.goto 850, 3) := by decide +kernel
theorem dL_law_1271 : decode cL_law 1271 = .ok (.aload_n 1, 1) := by decide +kernel
theorem dL_law_1272 : decode cL_law 1272 = .ok (.invokevirtual 197, 3) := by decide +kernel
theorem dL_law_1275 : decode cL_law 1275 = .ok (.aload_n 2, 1) := by decide +kernel
theorem dL_law_1276 : decode cL_law 1276 = .ok (.invokevirtual 200, 3) := by decide +kernel
theorem dL_law_1279 : decode cL_law 1279 = .ok (.if_icmp .eq 839, 3) := by decide +kernel
theorem dL_law_1282 : decode cL_law 1282 = .ok (.iconst 0, 1) := by decide +kernel
theorem dL_law_1283 : decode cL_law 1283 = .ok (.ireturn, 1) := by decide +kernel
theorem dL_law_1284 : decode cL_law 1284 = .ok (.aload_n 1, 1) := by decide +kernel
theorem dL_law_1285 : decode cL_law 1285 = .ok (.invokevirtual 201, 3) := by decide +kernel
theorem dL_law_1288 : decode cL_law 1288 = .ok (.aload_n 2, 1) := by decide +kernel
theorem dL_law_1289 : decode cL_law 1289 = .ok (.invokevirtual 204, 3) := by decide +kernel
theorem dL_law_1292 : decode cL_law 1292 = .ok (.if_icmp .eq 826, 3) := by decide +kernel
theorem dL_law_1295 : decode cL_law 1295 = .ok (.iconst 0, 1) := by decide +kernel
theorem dL_law_1296 : decode cL_law 1296 = .ok (.ireturn, 1) := by decide +kernel
theorem dL_law_1297 : decode cL_law 1297 = .ok (.aload_n 1, 1) := by decide +kernel
theorem dL_law_1298 : decode cL_law 1298 = .ok (.aload_n 0, 1) := by decide +kernel
theorem dL_law_1299 : decode cL_law 1299 = .ok (.iload 4, 2) := by decide +kernel
theorem dL_law_1301 : decode cL_law 1301 = .ok (.iconst 1, 1) := by decide +kernel
theorem dL_law_1302 : decode cL_law 1302 = .ok (.iadd, 1) := by decide +kernel
theorem dL_law_1303 : decode cL_law 1303 = .ok (.iaload, 1) := by decide +kernel
theorem dL_law_1304 : decode cL_law 1304 = .ok (.aload_n 3, 1) := by decide +kernel
theorem dL_law_1305 : decode cL_law 1305 = .ok (.invokestatic 205, 3) := by decide +kernel
theorem dL_law_1308 : decode cL_law 1308 = .ok (.istore 5, 2) := by decide +kernel
theorem dL_law_1310 : decode cL_law 1310 = .ok (.aload_n 2, 1) := by decide +kernel
theorem dL_law_1311 : decode cL_law 1311 = .ok (.aload_n 0, 1) := by decide +kernel
theorem dL_law_1312 : decode cL_law 1312 = .ok (.iload 4, 2) := by decide +kernel
theorem dL_law_1314 : decode cL_law 1314 = .ok (.iconst 1, 1) := by decide +kernel
theorem dL_law_1315 : decode cL_law 1315 = .ok (.iadd, 1) := by decide +kernel
theorem dL_law_1316 : decode cL_law 1316 = .ok (.iaload, 1) := by decide +kernel
theorem dL_law_1317 : decode cL_law 1317 = .ok (.invokevirtual 207, 3) := by decide +kernel
theorem dL_law_1320 : decode cL_law 1320 = .ok (.istore 6, 2) := by decide +kernel
theorem dL_law_1322 : decode cL_law 1322 = .ok (.aload_n 2, 1) := by decide +kernel
theorem dL_law_1323 : decode cL_law 1323 = .ok (.invokevirtual 113, 3) := by decide +kernel
theorem dL_law_1326 : decode cL_law 1326 = .ok (.iload 5, 2) := by decide +kernel
theorem dL_law_1328 : decode cL_law 1328 = .ok (.if_icmp .eq 5, 3) := by decide +kernel
theorem dL_law_1331 : decode cL_law 1331 = .ok (.iconst 0, 1) := by decide +kernel
theorem dL_law_1332 : decode cL_law 1332 = .ok (.ireturn, 1) := by decide +kernel
theorem dL_law_1333 : decode cL_law 1333 = .ok (.iload 5, 2) := by decide +kernel
theorem dL_law_1335 : decode cL_law 1335 = .ok (.ifCond .ne 15, 3) := by decide +kernel
theorem dL_law_1338 : decode cL_law 1338 = .ok (.aload_n 3, 1) := by decide +kernel
theorem dL_law_1339 : decode cL_law 1339 = .ok (.iconst 0, 1) := by decide +kernel
theorem dL_law_1340 : decode cL_law 1340 = .ok (.laload, 1) := by decide +kernel
theorem dL_law_1341 : decode cL_law 1341 = .ok (.iload 6, 2) := by decide +kernel
theorem dL_law_1343 : decode cL_law 1343 = .ok (.i2l, 1) := by decide +kernel
theorem dL_law_1344 : decode cL_law 1344 = .ok (.lcmp, 1) := by decide +kernel
theorem dL_law_1345 : decode cL_law 1345 = .ok (.ifCond .eq 5, 3) := by decide +kernel
theorem dL_law_1348 : decode cL_law 1348 = .ok (.iconst 0, 1) := by decide +kernel
theorem dL_law_1349 : decode cL_law 1349 = .ok (.ireturn, 1) := by decide +kernel
theorem dL_law_1350 : decode cL_law 1350 = .ok (.goto 768, 3) := by decide +kernel
theorem dL_law_1353 : decode cL_law 1353 = .ok (.aload_n 1, 1) := by decide +kernel
theorem dL_law_1354 : decode cL_law 1354 = .ok (.invokevirtual 208, 3) := by decide +kernel
theorem dL_law_1357 : decode cL_law 1357 = .ok (.aload_n 2, 1) := by decide +kernel
theorem dL_law_1358 : decode cL_law 1358 = .ok (.invokevirtual 211, 3) := by decide +kernel
theorem dL_law_1361 : decode cL_law 1361 = .ok (.if_icmp .eq 757, 3) := by decide +kernel
theorem dL_law_1364 : decode cL_law 1364 = .ok (.iconst 0, 1) := by decide +kernel
theorem dL_law_1365 : decode cL_law 1365 = .ok (.ireturn, 1) := by decide +kernel
theorem dL_law_1366 : decode cL_law 1366 = .ok (.aload_n 1, 1) := by decide +kernel
theorem dL_law_1367 : decode cL_law 1367 = .ok (.invokevirtual 212, 3) := by decide +kernel
theorem dL_law_1370 : decode cL_law 1370 = .ok (.aload_n 2, 1) := by decide +kernel
theorem dL_law_1371 : decode cL_law 1371 = .ok (.invokevirtual 215, 3) := by decide +kernel
theorem dL_law_1374 : decode cL_law 1374 = .ok (.if_icmp .eq 744, 3) := by decide +kernel
theorem dL_law_1377 : decode cL_law 1377 = .ok (.iconst 0, 1) := by decide +kernel
theorem dL_law_1378 : decode cL_law 1378 = .ok (.ireturn, 1) := by decide +kernel
theorem dL_law_1379 : decode cL_law 1379 = .ok (.aload_n 1, 1) := by decide +kernel
theorem dL_law_1380 : decode cL_law 1380 = .ok (.aload_n 0, 1) := by decide +kernel
theorem dL_law_1381 : decode cL_law 1381 = .ok (.iload 4, 2) := by decide +kernel
theorem dL_law_1383 : decode cL_law 1383 = .ok (.iconst 1, 1) := by decide +kernel
theorem dL_law_1384 : decode cL_law 1384 = .ok (.iadd, 1) := by decide +kernel
theorem dL_law_1385 : decode cL_law 1385 = .ok (.iaload, 1) := by decide +kernel
theorem dL_law_1386 : decode cL_law 1386 = .ok (.aload_n 3, 1) := by decide +kernel
theorem dL_law_1387 : decode cL_law 1387 = .ok (.invokestatic 216, 3) := by decide +kernel
theorem dL_law_1390 : decode cL_law 1390 = .ok (.istore 5, 2) := by decide +kernel
theorem dL_law_1392 : decode cL_law 1392 = .ok (.aload_n 2, 1) := by decide +kernel
theorem dL_law_1393 : decode cL_law 1393 = .ok (.aload_n 0, 1) := by decide +kernel
theorem dL_law_1394 : decode cL_law 1394 = .ok (.iload 4, 2) := by decide +kernel
theorem dL_law_1396 : decode cL_law 1396 = .ok (.iconst 1, 1) := by decide +kernel
theorem dL_law_1397 : decode cL_law 1397 = .ok (.iadd, 1) := by decide +kernel
theorem dL_law_1398 : decode cL_law 1398 = .ok (.iaload, 1) := by decide +kernel
theorem dL_law_1399 : decode cL_law 1399 = .ok (.invokevirtual 218, 3) := by decide +kernel
theorem dL_law_1402 : decode cL_law 1402 = .ok (.istore 6, 2) := by decide +kernel
theorem dL_law_1404 : decode cL_law 1404 = .ok (.aload_n 2, 1) := by decide +kernel
theorem dL_law_1405 : decode cL_law 1405 = .ok (.invokevirtual 113, 3) := by decide +kernel
theorem dL_law_1408 : decode cL_law 1408 = .ok (.iload 5, 2) := by decide +kernel
theorem dL_law_1410 : decode cL_law 1410 = .ok (.if_icmp .eq 5, 3) := by decide +kernel
theorem dL_law_1413 : decode cL_law 1413 = .ok (.iconst 0, 1) := by decide +kernel
theorem dL_law_1414 : decode cL_law 1414 = .ok (.ireturn, 1) := by decide +kernel
theorem dL_law_1415 : decode cL_law 1415 = .ok (.iload 5, 2) := by decide +kernel
theorem dL_law_1417 : decode cL_law 1417 = .ok (.ifCond .ne 15, 3) := by decide +kernel
theorem dL_law_1420 : decode cL_law 1420 = .ok (.aload_n 3, 1) := by decide +kernel
theorem dL_law_1421 : decode cL_law 1421 = .ok (.iconst 0, 1) := by decide +kernel
theorem dL_law_1422 : decode cL_law 1422 = .ok (.laload, 1) := by decide +kernel
theorem dL_law_1423 : decode cL_law 1423 = .ok (.iload 6, 2) := by decide +kernel
theorem dL_law_1425 : decode cL_law 1425 = .ok (.i2l, 1) := by decide +kernel
theorem dL_law_1426 : decode cL_law 1426 = .ok (.lcmp, 1) := by decide +kernel
theorem dL_law_1427 : decode cL_law 1427 = .ok (.ifCond .eq 5, 3) := by decide +kernel
theorem dL_law_1430 : decode cL_law 1430 = .ok (.iconst 0, 1) := by decide +kernel
theorem dL_law_1431 : decode cL_law 1431 = .ok (.ireturn, 1) := by decide +kernel
theorem dL_law_1432 : decode cL_law 1432 = .ok (.goto 686, 3) := by decide +kernel
theorem dL_law_1435 : decode cL_law 1435 = .ok (.aload_n 1, 1) := by decide +kernel
theorem dL_law_1436 : decode cL_law 1436 = .ok (.invokevirtual 219, 3) := by decide +kernel
theorem dL_law_1439 : decode cL_law 1439 = .ok (.aload_n 2, 1) := by decide +kernel
theorem dL_law_1440 : decode cL_law 1440 = .ok (.invokevirtual 222, 3) := by decide +kernel
theorem dL_law_1443 : decode cL_law 1443 = .ok (.if_icmp .eq 675, 3) := by decide +kernel
theorem dL_law_1446 : decode cL_law 1446 = .ok (.iconst 0, 1) := by decide +kernel
theorem dL_law_1447 : decode cL_law 1447 = .ok (.ireturn, 1) := by decide +kernel
theorem dL_law_1448 : decode cL_law 1448 = .ok (.aload_n 1, 1) := by decide +kernel
theorem dL_law_1449 : decode cL_law 1449 = .ok (.aload_n 0, 1) := by decide +kernel
theorem dL_law_1450 : decode cL_law 1450 = .ok (.iload 4, 2) := by decide +kernel
theorem dL_law_1452 : decode cL_law 1452 = .ok (.iconst 1, 1) := by decide +kernel
theorem dL_law_1453 : decode cL_law 1453 = .ok (.iadd, 1) := by decide +kernel
theorem dL_law_1454 : decode cL_law 1454 = .ok (.iaload, 1) := by decide +kernel
theorem dL_law_1455 : decode cL_law 1455 = .ok (.aload_n 3, 1) := by decide +kernel
theorem dL_law_1456 : decode cL_law 1456 = .ok (.invokestatic 223, 3) := by decide +kernel
theorem dL_law_1459 : decode cL_law 1459 = .ok (.istore 5, 2) := by decide +kernel
theorem dL_law_1461 : decode cL_law 1461 = .ok (.aload_n 2, 1) := by decide +kernel
theorem dL_law_1462 : decode cL_law 1462 = .ok (.aload_n 0, 1) := by decide +kernel
theorem dL_law_1463 : decode cL_law 1463 = .ok (.iload 4, 2) := by decide +kernel
theorem dL_law_1465 : decode cL_law 1465 = .ok (.iconst 1, 1) := by decide +kernel
theorem dL_law_1466 : decode cL_law 1466 = .ok (.iadd, 1) := by decide +kernel
theorem dL_law_1467 : decode cL_law 1467 = .ok (.iaload, 1) := by decide +kernel
theorem dL_law_1468 : decode cL_law 1468 = .ok (.invokevirtual 225, 3) := by decide +kernel
theorem dL_law_1471 : decode cL_law 1471 = .ok (.istore 6, 2) := by decide +kernel
theorem dL_law_1473 : decode cL_law 1473 = .ok (.aload_n 2, 1) := by decide +kernel
theorem dL_law_1474 : decode cL_law 1474 = .ok (.invokevirtual 113, 3) := by decide +kernel
theorem dL_law_1477 : decode cL_law 1477 = .ok (.iload 5, 2) := by decide +kernel
theorem dL_law_1479 : decode cL_law 1479 = .ok (.if_icmp .eq 5, 3) := by decide +kernel
theorem dL_law_1482 : decode cL_law 1482 = .ok (.iconst 0, 1) := by decide +kernel
theorem dL_law_1483 : decode cL_law 1483 = .ok (.ireturn, 1) := by decide +kernel
theorem dL_law_1484 : decode cL_law 1484 = .ok (.iload 5, 2) := by decide +kernel
theorem dL_law_1486 : decode cL_law 1486 = .ok (.ifCond .ne 15, 3) := by decide +kernel
theorem dL_law_1489 : decode cL_law 1489 = .ok (.aload_n 3, 1) := by decide +kernel
theorem dL_law_1490 : decode cL_law 1490 = .ok (.iconst 0, 1) := by decide +kernel
theorem dL_law_1491 : decode cL_law 1491 = .ok (.laload, 1) := by decide +kernel
theorem dL_law_1492 : decode cL_law 1492 = .ok (.iload 6, 2) := by decide +kernel
theorem dL_law_1494 : decode cL_law 1494 = .ok (.i2l, 1) := by decide +kernel
theorem dL_law_1495 : decode cL_law 1495 = .ok (.lcmp, 1) := by decide +kernel
theorem dL_law_1496 : decode cL_law 1496 = .ok (.ifCond .eq 5, 3) := by decide +kernel
theorem dL_law_1499 : decode cL_law 1499 = .ok (.iconst 0, 1) := by decide +kernel
theorem dL_law_1500 : decode cL_law 1500 = .ok (.ireturn, 1) := by decide +kernel
theorem dL_law_1501 : decode cL_law 1501 = .ok (.goto 617, 3) := by decide +kernel
theorem dL_law_1504 : decode cL_law 1504 = .ok (.aload_n 1, 1) := by decide +kernel
theorem dL_law_1505 : decode cL_law 1505 = .ok (.aload_n 0, 1) := by decide +kernel
theorem dL_law_1506 : decode cL_law 1506 = .ok (.iload 4, 2) := by decide +kernel
theorem dL_law_1508 : decode cL_law 1508 = .ok (.iconst 1, 1) := by decide +kernel
theorem dL_law_1509 : decode cL_law 1509 = .ok (.iadd, 1) := by decide +kernel
theorem dL_law_1510 : decode cL_law 1510 = .ok (.iaload, 1) := by decide +kernel
theorem dL_law_1511 : decode cL_law 1511 = .ok (.aload_n 3, 1) := by decide +kernel
theorem dL_law_1512 : decode cL_law 1512 = .ok (.invokestatic 226, 3) := by decide +kernel
theorem dL_law_1515 : decode cL_law 1515 = .ok (.istore 5, 2) := by decide +kernel
theorem dL_law_1517 : decode cL_law 1517 = .ok (.aload_n 2, 1) := by decide +kernel
theorem dL_law_1518 : decode cL_law 1518 = .ok (.aload_n 0, 1) := by decide +kernel
theorem dL_law_1519 : decode cL_law 1519 = .ok (.iload 4, 2) := by decide +kernel
theorem dL_law_1521 : decode cL_law 1521 = .ok (.iconst 1, 1) := by decide +kernel
theorem dL_law_1522 : decode cL_law 1522 = .ok (.iadd, 1) := by decide +kernel
theorem dL_law_1523 : decode cL_law 1523 = .ok (.iaload, 1) := by decide +kernel
theorem dL_law_1524 : decode cL_law 1524 = .ok (.invokevirtual 228, 3) := by decide +kernel
theorem dL_law_1527 : decode cL_law 1527 = .ok (.istore 6, 2) := by decide +kernel
theorem dL_law_1529 : decode cL_law 1529 = .ok (.aload_n 2, 1) := by decide +kernel
theorem dL_law_1530 : decode cL_law 1530 = .ok (.invokevirtual 113, 3) := by decide +kernel
theorem dL_law_1533 : decode cL_law 1533 = .ok (.iload 5, 2) := by decide +kernel
theorem dL_law_1535 : decode cL_law 1535 = .ok (.if_icmp .eq 5, 3) := by decide +kernel
theorem dL_law_1538 : decode cL_law 1538 = .ok (.iconst 0, 1) := by decide +kernel
theorem dL_law_1539 : decode cL_law 1539 = .ok (.ireturn, 1) := by decide +kernel
theorem dL_law_1540 : decode cL_law 1540 = .ok (.iload 5, 2) := by decide +kernel
theorem dL_law_1542 : decode cL_law 1542 = .ok (.ifCond .ne 15, 3) := by decide +kernel
theorem dL_law_1545 : decode cL_law 1545 = .ok (.aload_n 3, 1) := by decide +kernel
theorem dL_law_1546 : decode cL_law 1546 = .ok (.iconst 0, 1) := by decide +kernel
theorem dL_law_1547 : decode cL_law 1547 = .ok (.laload, 1) := by decide +kernel
theorem dL_law_1548 : decode cL_law 1548 = .ok (.iload 6, 2) := by decide +kernel
theorem dL_law_1550 : decode cL_law 1550 = .ok (.i2l, 1) := by decide +kernel
theorem dL_law_1551 : decode cL_law 1551 = .ok (.lcmp, 1) := by decide +kernel
theorem dL_law_1552 : decode cL_law 1552 = .ok (.ifCond .eq 5, 3) := by decide +kernel
theorem dL_law_1555 : decode cL_law 1555 = .ok (.iconst 0, 1) := by decide +kernel
theorem dL_law_1556 : decode cL_law 1556 = .ok (.ireturn, 1) := by decide +kernel
theorem dL_law_1557 : decode cL_law 1557 = .ok (.goto 561, 3) := by decide +kernel
theorem dL_law_1560 : decode cL_law 1560 = .ok (.aload_n 1, 1) := by decide +kernel
theorem dL_law_1561 : decode cL_law 1561 = .ok (.aload_n 0, 1) := by decide +kernel
theorem dL_law_1562 : decode cL_law 1562 = .ok (.iload 4, 2) := by decide +kernel
theorem dL_law_1564 : decode cL_law 1564 = .ok (.iconst 1, 1) := by decide +kernel
theorem dL_law_1565 : decode cL_law 1565 = .ok (.iadd, 1) := by decide +kernel
theorem dL_law_1566 : decode cL_law 1566 = .ok (.iaload, 1) := by decide +kernel
theorem dL_law_1567 : decode cL_law 1567 = .ok (.aload_n 3, 1) := by decide +kernel
theorem dL_law_1568 : decode cL_law 1568 = .ok (.invokestatic 229, 3) := by decide +kernel
theorem dL_law_1571 : decode cL_law 1571 = .ok (.istore 5, 2) := by decide +kernel
theorem dL_law_1573 : decode cL_law 1573 = .ok (.aload_n 2, 1) := by decide +kernel
theorem dL_law_1574 : decode cL_law 1574 = .ok (.aload_n 0, 1) := by decide +kernel
theorem dL_law_1575 : decode cL_law 1575 = .ok (.iload 4, 2) := by decide +kernel
theorem dL_law_1577 : decode cL_law 1577 = .ok (.iconst 1, 1) := by decide +kernel
theorem dL_law_1578 : decode cL_law 1578 = .ok (.iadd, 1) := by decide +kernel
theorem dL_law_1579 : decode cL_law 1579 = .ok (.iaload, 1) := by decide +kernel
theorem dL_law_1580 : decode cL_law 1580 = .ok (.invokevirtual 231, 3) := by decide +kernel
theorem dL_law_1583 : decode cL_law 1583 = .ok (.istore 6, 2) := by decide +kernel
theorem dL_law_1585 : decode cL_law 1585 = .ok (.aload_n 2, 1) := by decide +kernel
theorem dL_law_1586 : decode cL_law 1586 = .ok (.invokevirtual 113, 3) := by decide +kernel
theorem dL_law_1589 : decode cL_law 1589 = .ok (.iload 5, 2) := by decide +kernel
theorem dL_law_1591 : decode cL_law 1591 = .ok (.if_icmp .eq 5, 3) := by decide +kernel
theorem dL_law_1594 : decode cL_law 1594 = .ok (.iconst 0, 1) := by decide +kernel
theorem dL_law_1595 : decode cL_law 1595 = .ok (.ireturn, 1) := by decide +kernel
theorem dL_law_1596 : decode cL_law 1596 = .ok (.iload 5, 2) := by decide +kernel
theorem dL_law_1598 : decode cL_law 1598 = .ok (.ifCond .ne 15, 3) := by decide +kernel
theorem dL_law_1601 : decode cL_law 1601 = .ok (.aload_n 3, 1) := by decide +kernel
theorem dL_law_1602 : decode cL_law 1602 = .ok (.iconst 0, 1) := by decide +kernel
theorem dL_law_1603 : decode cL_law 1603 = .ok (.laload, 1) := by decide +kernel
theorem dL_law_1604 : decode cL_law 1604 = .ok (.iload 6, 2) := by decide +kernel
theorem dL_law_1606 : decode cL_law 1606 = .ok (.i2l, 1) := by decide +kernel
theorem dL_law_1607 : decode cL_law 1607 = .ok (.lcmp, 1) := by decide +kernel
theorem dL_law_1608 : decode cL_law 1608 = .ok (.ifCond .eq 5, 3) := by decide +kernel
theorem dL_law_1611 : decode cL_law 1611 = .ok (.iconst 0, 1) := by decide +kernel
theorem dL_law_1612 : decode cL_law 1612 = .ok (.ireturn, 1) := by decide +kernel
theorem dL_law_1613 : decode cL_law 1613 = .ok (.goto 505, 3) := by decide +kernel
theorem dL_law_1616 : decode cL_law 1616 = .ok (.aload_n 1, 1) := by decide +kernel
theorem dL_law_1617 : decode cL_law 1617 = .ok (.invokevirtual 232, 3) := by decide +kernel
theorem dL_law_1620 : decode cL_law 1620 = .ok (.aload_n 2, 1) := by decide +kernel
theorem dL_law_1621 : decode cL_law 1621 = .ok (.invokevirtual 235, 3) := by decide +kernel
theorem dL_law_1624 : decode cL_law 1624 = .ok (.if_icmp .eq 494, 3) := by decide +kernel
theorem dL_law_1627 : decode cL_law 1627 = .ok (.iconst 0, 1) := by decide +kernel
theorem dL_law_1628 : decode cL_law 1628 = .ok (.ireturn, 1) := by decide +kernel
theorem dL_law_1629 : decode cL_law 1629 = .ok (.aload_n 1, 1) := by decide +kernel
theorem dL_law_1630 : decode cL_law 1630 = .ok (.aload_n 0, 1) := by decide +kernel
theorem dL_law_1631 : decode cL_law 1631 = .ok (.iload 4, 2) := by decide +kernel
theorem dL_law_1633 : decode cL_law 1633 = .ok (.iconst 1, 1) := by decide +kernel
theorem dL_law_1634 : decode cL_law 1634 = .ok (.iadd, 1) := by decide +kernel
theorem dL_law_1635 : decode cL_law 1635 = .ok (.iaload, 1) := by decide +kernel
theorem dL_law_1636 : decode cL_law 1636 = .ok (.aload_n 3, 1) := by decide +kernel
theorem dL_law_1637 : decode cL_law 1637 = .ok (.invokestatic 236, 3) := by decide +kernel
theorem dL_law_1640 : decode cL_law 1640 = .ok (.istore 5, 2) := by decide +kernel
theorem dL_law_1642 : decode cL_law 1642 = .ok (.aload_n 2, 1) := by decide +kernel
theorem dL_law_1643 : decode cL_law 1643 = .ok (.aload_n 0, 1) := by decide +kernel
theorem dL_law_1644 : decode cL_law 1644 = .ok (.iload 4, 2) := by decide +kernel
theorem dL_law_1646 : decode cL_law 1646 = .ok (.iconst 1, 1) := by decide +kernel
theorem dL_law_1647 : decode cL_law 1647 = .ok (.iadd, 1) := by decide +kernel
theorem dL_law_1648 : decode cL_law 1648 = .ok (.iaload, 1) := by decide +kernel
theorem dL_law_1649 : decode cL_law 1649 = .ok (.invokevirtual 238, 3) := by decide +kernel
theorem dL_law_1652 : decode cL_law 1652 = .ok (.istore 6, 2) := by decide +kernel
theorem dL_law_1654 : decode cL_law 1654 = .ok (.aload_n 2, 1) := by decide +kernel
theorem dL_law_1655 : decode cL_law 1655 = .ok (.invokevirtual 113, 3) := by decide +kernel
theorem dL_law_1658 : decode cL_law 1658 = .ok (.iload 5, 2) := by decide +kernel
theorem dL_law_1660 : decode cL_law 1660 = .ok (.if_icmp .eq 5, 3) := by decide +kernel
theorem dL_law_1663 : decode cL_law 1663 = .ok (.iconst 0, 1) := by decide +kernel
theorem dL_law_1664 : decode cL_law 1664 = .ok (.ireturn, 1) := by decide +kernel
theorem dL_law_1665 : decode cL_law 1665 = .ok (.iload 5, 2) := by decide +kernel
theorem dL_law_1667 : decode cL_law 1667 = .ok (.ifCond .ne 15, 3) := by decide +kernel
theorem dL_law_1670 : decode cL_law 1670 = .ok (.aload_n 3, 1) := by decide +kernel
theorem dL_law_1671 : decode cL_law 1671 = .ok (.iconst 0, 1) := by decide +kernel
theorem dL_law_1672 : decode cL_law 1672 = .ok (.laload, 1) := by decide +kernel
theorem dL_law_1673 : decode cL_law 1673 = .ok (.iload 6, 2) := by decide +kernel
theorem dL_law_1675 : decode cL_law 1675 = .ok (.i2l, 1) := by decide +kernel
theorem dL_law_1676 : decode cL_law 1676 = .ok (.lcmp, 1) := by decide +kernel
theorem dL_law_1677 : decode cL_law 1677 = .ok (.ifCond .eq 5, 3) := by decide +kernel
theorem dL_law_1680 : decode cL_law 1680 = .ok (.iconst 0, 1) := by decide +kernel
theorem dL_law_1681 : decode cL_law 1681 = .ok (.ireturn, 1) := by decide +kernel
theorem dL_law_1682 : decode cL_law 1682 = .ok (.goto 436, 3) := by decide +kernel
theorem dL_law_1685 : decode cL_law 1685 = .ok (.aload_n 1, 1) := by decide +kernel
theorem dL_law_1686 : decode cL_law 1686 = .ok (.aload_n 0, 1) := by decide +kernel
theorem dL_law_1687 : decode cL_law 1687 = .ok (.iload 4, 2) := by decide +kernel
theorem dL_law_1689 : decode cL_law 1689 = .ok (.iconst 1, 1) := by decide +kernel
theorem dL_law_1690 : decode cL_law 1690 = .ok (.iadd, 1) := by decide +kernel
theorem dL_law_1691 : decode cL_law 1691 = .ok (.iaload, 1) := by decide +kernel
theorem dL_law_1692 : decode cL_law 1692 = .ok (.aload_n 3, 1) := by decide +kernel
theorem dL_law_1693 : decode cL_law 1693 = .ok (.invokestatic 239, 3) := by decide +kernel
theorem dL_law_1696 : decode cL_law 1696 = .ok (.istore 5, 2) := by decide +kernel
theorem dL_law_1698 : decode cL_law 1698 = .ok (.aload_n 2, 1) := by decide +kernel
theorem dL_law_1699 : decode cL_law 1699 = .ok (.aload_n 0, 1) := by decide +kernel
theorem dL_law_1700 : decode cL_law 1700 = .ok (.iload 4, 2) := by decide +kernel
theorem dL_law_1702 : decode cL_law 1702 = .ok (.iconst 1, 1) := by decide +kernel
theorem dL_law_1703 : decode cL_law 1703 = .ok (.iadd, 1) := by decide +kernel
theorem dL_law_1704 : decode cL_law 1704 = .ok (.iaload, 1) := by decide +kernel
theorem dL_law_1705 : decode cL_law 1705 = .ok (.invokevirtual 241, 3) := by decide +kernel
theorem dL_law_1708 : decode cL_law 1708 = .ok (.istore 6, 2) := by decide +kernel
theorem dL_law_1710 : decode cL_law 1710 = .ok (.aload_n 2, 1) := by decide +kernel
theorem dL_law_1711 : decode cL_law 1711 = .ok (.invokevirtual 113, 3) := by decide +kernel
theorem dL_law_1714 : decode cL_law 1714 = .ok (.iload 5, 2) := by decide +kernel
theorem dL_law_1716 : decode cL_law 1716 = .ok (.if_icmp .eq 5, 3) := by decide +kernel
theorem dL_law_1719 : decode cL_law 1719 = .ok (.iconst 0, 1) := by decide +kernel
theorem dL_law_1720 : decode cL_law 1720 = .ok (.ireturn, 1) := by decide +kernel
theorem dL_law_1721 : decode cL_law 1721 = .ok (.iload 5, 2) := by decide +kernel
theorem dL_law_1723 : decode cL_law 1723 = .ok (.ifCond .ne 15, 3) := by decide +kernel
theorem dL_law_1726 : decode cL_law 1726 = .ok (.aload_n 3, 1) := by decide +kernel
theorem dL_law_1727 : decode cL_law 1727 = .ok (.iconst 0, 1) := by decide +kernel
theorem dL_law_1728 : decode cL_law 1728 = .ok (.laload, 1) := by decide +kernel
theorem dL_law_1729 : decode cL_law 1729 = .ok (.iload 6, 2) := by decide +kernel
theorem dL_law_1731 : decode cL_law 1731 = .ok (.i2l, 1) := by decide +kernel
theorem dL_law_1732 : decode cL_law 1732 = .ok (.lcmp, 1) := by decide +kernel
theorem dL_law_1733 : decode cL_law 1733 = .ok (.ifCond .eq 5, 3) := by decide +kernel
theorem dL_law_1736 : decode cL_law 1736 = .ok (.iconst 0, 1) := by decide +kernel
theorem dL_law_1737 : decode cL_law 1737 = .ok (.ireturn, 1) := by decide +kernel
theorem dL_law_1738 : decode cL_law 1738 = .ok (.goto 380, 3) := by decide +kernel
theorem dL_law_1741 : decode cL_law 1741 = .ok (.aload_n 1, 1) := by decide +kernel
theorem dL_law_1742 : decode cL_law 1742 = .ok (.aload_n 0, 1) := by decide +kernel
theorem dL_law_1743 : decode cL_law 1743 = .ok (.iload 4, 2) := by decide +kernel
theorem dL_law_1745 : decode cL_law 1745 = .ok (.iconst 1, 1) := by decide +kernel
theorem dL_law_1746 : decode cL_law 1746 = .ok (.iadd, 1) := by decide +kernel
theorem dL_law_1747 : decode cL_law 1747 = .ok (.iaload, 1) := by decide +kernel
theorem dL_law_1748 : decode cL_law 1748 = .ok (.aload_n 0, 1) := by decide +kernel
theorem dL_law_1749 : decode cL_law 1749 = .ok (.iload 4, 2) := by decide +kernel
theorem dL_law_1751 : decode cL_law 1751 = .ok (.iconst 2, 1) := by decide +kernel
theorem dL_law_1752 : decode cL_law 1752 = .ok (.iadd, 1) := by decide +kernel
theorem dL_law_1753 : decode cL_law 1753 = .ok (.iaload, 1) := by decide +kernel
theorem dL_law_1754 : decode cL_law 1754 = .ok (.aload_n 3, 1) := by decide +kernel
theorem dL_law_1755 : decode cL_law 1755 = .ok (.invokestatic 242, 3) := by decide +kernel
theorem dL_law_1758 : decode cL_law 1758 = .ok (.istore 5, 2) := by decide +kernel
theorem dL_law_1760 : decode cL_law 1760 = .ok (.aload_n 2, 1) := by decide +kernel
theorem dL_law_1761 : decode cL_law 1761 = .ok (.aload_n 0, 1) := by decide +kernel
theorem dL_law_1762 : decode cL_law 1762 = .ok (.iload 4, 2) := by decide +kernel
theorem dL_law_1764 : decode cL_law 1764 = .ok (.iconst 1, 1) := by decide +kernel
theorem dL_law_1765 : decode cL_law 1765 = .ok (.iadd, 1) := by decide +kernel
theorem dL_law_1766 : decode cL_law 1766 = .ok (.iaload, 1) := by decide +kernel
theorem dL_law_1767 : decode cL_law 1767 = .ok (.aload_n 0, 1) := by decide +kernel
theorem dL_law_1768 : decode cL_law 1768 = .ok (.iload 4, 2) := by decide +kernel
theorem dL_law_1770 : decode cL_law 1770 = .ok (.iconst 2, 1) := by decide +kernel
theorem dL_law_1771 : decode cL_law 1771 = .ok (.iadd, 1) := by decide +kernel
theorem dL_law_1772 : decode cL_law 1772 = .ok (.iaload, 1) := by decide +kernel
theorem dL_law_1773 : decode cL_law 1773 = .ok (.invokevirtual 244, 3) := by decide +kernel
theorem dL_law_1776 : decode cL_law 1776 = .ok (.istore 6, 2) := by decide +kernel
theorem dL_law_1778 : decode cL_law 1778 = .ok (.aload_n 2, 1) := by decide +kernel
theorem dL_law_1779 : decode cL_law 1779 = .ok (.invokevirtual 113, 3) := by decide +kernel
theorem dL_law_1782 : decode cL_law 1782 = .ok (.iload 5, 2) := by decide +kernel
theorem dL_law_1784 : decode cL_law 1784 = .ok (.if_icmp .eq 5, 3) := by decide +kernel
theorem dL_law_1787 : decode cL_law 1787 = .ok (.iconst 0, 1) := by decide +kernel
theorem dL_law_1788 : decode cL_law 1788 = .ok (.ireturn, 1) := by decide +kernel
theorem dL_law_1789 : decode cL_law 1789 = .ok (.iload 5, 2) := by decide +kernel
theorem dL_law_1791 : decode cL_law 1791 = .ok (.ifCond .ne 15, 3) := by decide +kernel
theorem dL_law_1794 : decode cL_law 1794 = .ok (.aload_n 3, 1) := by decide +kernel
theorem dL_law_1795 : decode cL_law 1795 = .ok (.iconst 0, 1) := by decide +kernel
theorem dL_law_1796 : decode cL_law 1796 = .ok (.laload, 1) := by decide +kernel
theorem dL_law_1797 : decode cL_law 1797 = .ok (.iload 6, 2) := by decide +kernel
theorem dL_law_1799 : decode cL_law 1799 = .ok (.i2l, 1) := by decide +kernel
theorem dL_law_1800 : decode cL_law 1800 = .ok (.lcmp, 1) := by decide +kernel
theorem dL_law_1801 : decode cL_law 1801 = .ok (.ifCond .eq 5, 3) := by decide +kernel
theorem dL_law_1804 : decode cL_law 1804 = .ok (.iconst 0, 1) := by decide +kernel
theorem dL_law_1805 : decode cL_law 1805 = .ok (.ireturn, 1) := by decide +kernel
theorem dL_law_1806 : decode cL_law 1806 = .ok (.goto 312, 3) := by decide +kernel
theorem dL_law_1809 : decode cL_law 1809 = .ok (.aload_n 1, 1) := by decide +kernel
theorem dL_law_1810 : decode cL_law 1810 = .ok (.aload_n 0, 1) := by decide +kernel
theorem dL_law_1811 : decode cL_law 1811 = .ok (.iload 4, 2) := by decide +kernel
theorem dL_law_1813 : decode cL_law 1813 = .ok (.iconst 1, 1) := by decide +kernel
theorem dL_law_1814 : decode cL_law 1814 = .ok (.iadd, 1) := by decide +kernel
theorem dL_law_1815 : decode cL_law 1815 = .ok (.iaload, 1) := by decide +kernel
theorem dL_law_1816 : decode cL_law 1816 = .ok (.aload_n 0, 1) := by decide +kernel
theorem dL_law_1817 : decode cL_law 1817 = .ok (.iload 4, 2) := by decide +kernel
theorem dL_law_1819 : decode cL_law 1819 = .ok (.iconst 2, 1) := by decide +kernel
theorem dL_law_1820 : decode cL_law 1820 = .ok (.iadd, 1) := by decide +kernel
theorem dL_law_1821 : decode cL_law 1821 = .ok (.iaload, 1) := by decide +kernel
theorem dL_law_1822 : decode cL_law 1822 = .ok (.ifCond .eq 7, 3) := by decide +kernel
theorem dL_law_1825 : decode cL_law 1825 = .ok (.iconst 1, 1) := by decide +kernel
theorem dL_law_1826 : decode cL_law 1826 = .ok (.goto 4, 3) := by decide +kernel
theorem dL_law_1829 : decode cL_law 1829 = .ok (.iconst 0, 1) := by decide +kernel
theorem dL_law_1830 : decode cL_law 1830 = .ok (.aload_n 3, 1) := by decide +kernel
theorem dL_law_1831 : decode cL_law 1831 = .ok (.invokestatic 245, 3) := by decide +kernel
theorem dL_law_1834 : decode cL_law 1834 = .ok (.istore 5, 2) := by decide +kernel
theorem dL_law_1836 : decode cL_law 1836 = .ok (.aload_n 2, 1) := by decide +kernel
theorem dL_law_1837 : decode cL_law 1837 = .ok (.aload_n 0, 1) := by decide +kernel
theorem dL_law_1838 : decode cL_law 1838 = .ok (.iload 4, 2) := by decide +kernel
theorem dL_law_1840 : decode cL_law 1840 = .ok (.iconst 1, 1) := by decide +kernel
theorem dL_law_1841 : decode cL_law 1841 = .ok (.iadd, 1) := by decide +kernel
theorem dL_law_1842 : decode cL_law 1842 = .ok (.iaload, 1) := by decide +kernel
theorem dL_law_1843 : decode cL_law 1843 = .ok (.aload_n 0, 1) := by decide +kernel
theorem dL_law_1844 : decode cL_law 1844 = .ok (.iload 4, 2) := by decide +kernel
theorem dL_law_1846 : decode cL_law 1846 = .ok (.iconst 2, 1) := by decide +kernel
theorem dL_law_1847 : decode cL_law 1847 = .ok (.iadd, 1) := by decide +kernel
theorem dL_law_1848 : decode cL_law 1848 = .ok (.iaload, 1) := by decide +kernel
theorem dL_law_1849 : decode cL_law 1849 = .ok (.ifCond .eq 7, 3) := by decide +kernel
theorem dL_law_1852 : decode cL_law 1852 = .ok (.iconst 1, 1) := by decide +kernel
theorem dL_law_1853 : decode cL_law 1853 = .ok (.goto 4, 3) := by decide +kernel
theorem dL_law_1856 : decode cL_law 1856 = .ok (.iconst 0, 1) := by decide +kernel
theorem dL_law_1857 : decode cL_law 1857 = .ok (.invokevirtual 248, 3) := by decide +kernel
theorem dL_law_1860 : decode cL_law 1860 = .ok (.istore 6, 2) := by decide +kernel
theorem dL_law_1862 : decode cL_law 1862 = .ok (.aload_n 2, 1) := by decide +kernel
theorem dL_law_1863 : decode cL_law 1863 = .ok (.invokevirtual 113, 3) := by decide +kernel
theorem dL_law_1866 : decode cL_law 1866 = .ok (.iload 5, 2) := by decide +kernel
theorem dL_law_1868 : decode cL_law 1868 = .ok (.if_icmp .eq 5, 3) := by decide +kernel
theorem dL_law_1871 : decode cL_law 1871 = .ok (.iconst 0, 1) := by decide +kernel
theorem dL_law_1872 : decode cL_law 1872 = .ok (.ireturn, 1) := by decide +kernel
theorem dL_law_1873 : decode cL_law 1873 = .ok (.iload 5, 2) := by decide +kernel
theorem dL_law_1875 : decode cL_law 1875 = .ok (.ifCond .ne 15, 3) := by decide +kernel
theorem dL_law_1878 : decode cL_law 1878 = .ok (.aload_n 3, 1) := by decide +kernel
theorem dL_law_1879 : decode cL_law 1879 = .ok (.iconst 0, 1) := by decide +kernel
theorem dL_law_1880 : decode cL_law 1880 = .ok (.laload, 1) := by decide +kernel
theorem dL_law_1881 : decode cL_law 1881 = .ok (.iload 6, 2) := by decide +kernel
theorem dL_law_1883 : decode cL_law 1883 = .ok (.i2l, 1) := by decide +kernel
theorem dL_law_1884 : decode cL_law 1884 = .ok (.lcmp, 1) := by decide +kernel
theorem dL_law_1885 : decode cL_law 1885 = .ok (.ifCond .eq 5, 3) := by decide +kernel
theorem dL_law_1888 : decode cL_law 1888 = .ok (.iconst 0, 1) := by decide +kernel
theorem dL_law_1889 : decode cL_law 1889 = .ok (.ireturn, 1) := by decide +kernel
theorem dL_law_1890 : decode cL_law 1890 = .ok (.goto 228, 3) := by decide +kernel
theorem dL_law_1893 : decode cL_law 1893 = .ok (.aload_n 1, 1) := by decide +kernel
theorem dL_law_1894 : decode cL_law 1894 = .ok (.invokevirtual 249, 3) := by decide +kernel
theorem dL_law_1897 : decode cL_law 1897 = .ok (.aload_n 2, 1) := by decide +kernel
theorem dL_law_1898 : decode cL_law 1898 = .ok (.invokevirtual 252, 3) := by decide +kernel
theorem dL_law_1901 : decode cL_law 1901 = .ok (.if_icmp .eq 217, 3) := by decide +kernel
theorem dL_law_1904 : decode cL_law 1904 = .ok (.iconst 0, 1) := by decide +kernel
theorem dL_law_1905 : decode cL_law 1905 = .ok (.ireturn, 1) := by decide +kernel
theorem dL_law_1906 : decode cL_law 1906 = .ok (.aload_n 1, 1) := by decide +kernel
theorem dL_law_1907 : decode cL_law 1907 = .ok (.aload_n 0, 1) := by decide +kernel
theorem dL_law_1908 : decode cL_law 1908 = .ok (.iload 4, 2) := by decide +kernel
theorem dL_law_1910 : decode cL_law 1910 = .ok (.iconst 1, 1) := by decide +kernel
theorem dL_law_1911 : decode cL_law 1911 = .ok (.iadd, 1) := by decide +kernel
theorem dL_law_1912 : decode cL_law 1912 = .ok (.iaload, 1) := by decide +kernel
theorem dL_law_1913 : decode cL_law 1913 = .ok (.aload_n 3, 1) := by decide +kernel
theorem dL_law_1914 : decode cL_law 1914 = .ok (.invokestatic 253, 3) := by decide +kernel
theorem dL_law_1917 : decode cL_law 1917 = .ok (.istore 5, 2) := by decide +kernel
theorem dL_law_1919 : decode cL_law 1919 = .ok (.aload_n 2, 1) := by decide +kernel
theorem dL_law_1920 : decode cL_law 1920 = .ok (.aload_n 0, 1) := by decide +kernel
theorem dL_law_1921 : decode cL_law 1921 = .ok (.iload 4, 2) := by decide +kernel
theorem dL_law_1923 : decode cL_law 1923 = .ok (.iconst 1, 1) := by decide +kernel
theorem dL_law_1924 : decode cL_law 1924 = .ok (.iadd, 1) := by decide +kernel
theorem dL_law_1925 : decode cL_law 1925 = .ok (.iaload, 1) := by decide +kernel
theorem dL_law_1926 : decode cL_law 1926 = .ok (.invokevirtual 255, 3) := by decide +kernel
theorem dL_law_1929 : decode cL_law 1929 = .ok (.istore 6, 2) := by decide +kernel
theorem dL_law_1931 : decode cL_law 1931 = .ok (.aload_n 2, 1) := by decide +kernel
theorem dL_law_1932 : decode cL_law 1932 = .ok (.invokevirtual 113, 3) := by decide +kernel
theorem dL_law_1935 : decode cL_law 1935 = .ok (.iload 5, 2) := by decide +kernel
theorem dL_law_1937 : decode cL_law 1937 = .ok (.if_icmp .eq 5, 3) := by decide +kernel
theorem dL_law_1940 : decode cL_law 1940 = .ok (.iconst 0, 1) := by decide +kernel
theorem dL_law_1941 : decode cL_law 1941 = .ok (.ireturn, 1) := by decide +kernel
theorem dL_law_1942 : decode cL_law 1942 = .ok (.iload 5, 2) := by decide +kernel
theorem dL_law_1944 : decode cL_law 1944 = .ok (.ifCond .ne 15, 3) := by decide +kernel
theorem dL_law_1947 : decode cL_law 1947 = .ok (.aload_n 3, 1) := by decide +kernel
theorem dL_law_1948 : decode cL_law 1948 = .ok (.iconst 0, 1) := by decide +kernel
theorem dL_law_1949 : decode cL_law 1949 = .ok (.laload, 1) := by decide +kernel
theorem dL_law_1950 : decode cL_law 1950 = .ok (.iload 6, 2) := by decide +kernel
theorem dL_law_1952 : decode cL_law 1952 = .ok (.i2l, 1) := by decide +kernel
theorem dL_law_1953 : decode cL_law 1953 = .ok (.lcmp, 1) := by decide +kernel
theorem dL_law_1954 : decode cL_law 1954 = .ok (.ifCond .eq 5, 3) := by decide +kernel
theorem dL_law_1957 : decode cL_law 1957 = .ok (.iconst 0, 1) := by decide +kernel
theorem dL_law_1958 : decode cL_law 1958 = .ok (.ireturn, 1) := by decide +kernel
theorem dL_law_1959 : decode cL_law 1959 = .ok (.goto 159, 3) := by decide +kernel
theorem dL_law_1962 : decode cL_law 1962 = .ok (.aload_n 1, 1) := by decide +kernel
theorem dL_law_1963 : decode cL_law 1963 = .ok (.aload_n 3, 1) := by decide +kernel
theorem dL_law_1964 : decode cL_law 1964 = .ok (.invokestatic 256, 3) := by decide +kernel
theorem dL_law_1967 : decode cL_law 1967 = .ok (.istore 5, 2) := by decide +kernel
theorem dL_law_1969 : decode cL_law 1969 = .ok (.aload_n 2, 1) := by decide +kernel
theorem dL_law_1970 : decode cL_law 1970 = .ok (.invokevirtual 258, 3) := by decide +kernel
theorem dL_law_1973 : decode cL_law 1973 = .ok (.istore 6, 2) := by decide +kernel
theorem dL_law_1975 : decode cL_law 1975 = .ok (.aload_n 2, 1) := by decide +kernel
theorem dL_law_1976 : decode cL_law 1976 = .ok (.invokevirtual 113, 3) := by decide +kernel
theorem dL_law_1979 : decode cL_law 1979 = .ok (.iload 5, 2) := by decide +kernel
theorem dL_law_1981 : decode cL_law 1981 = .ok (.if_icmp .eq 5, 3) := by decide +kernel
theorem dL_law_1984 : decode cL_law 1984 = .ok (.iconst 0, 1) := by decide +kernel
theorem dL_law_1985 : decode cL_law 1985 = .ok (.ireturn, 1) := by decide +kernel
theorem dL_law_1986 : decode cL_law 1986 = .ok (.iload 5, 2) := by decide +kernel
theorem dL_law_1988 : decode cL_law 1988 = .ok (.ifCond .ne 15, 3) := by decide +kernel
theorem dL_law_1991 : decode cL_law 1991 = .ok (.aload_n 3, 1) := by decide +kernel
theorem dL_law_1992 : decode cL_law 1992 = .ok (.iconst 0, 1) := by decide +kernel
theorem dL_law_1993 : decode cL_law 1993 = .ok (.laload, 1) := by decide +kernel
theorem dL_law_1994 : decode cL_law 1994 = .ok (.iload 6, 2) := by decide +kernel
theorem dL_law_1996 : decode cL_law 1996 = .ok (.i2l, 1) := by decide +kernel
theorem dL_law_1997 : decode cL_law 1997 = .ok (.lcmp, 1) := by decide +kernel
theorem dL_law_1998 : decode cL_law 1998 = .ok (.ifCond .eq 5, 3) := by decide +kernel
theorem dL_law_2001 : decode cL_law 2001 = .ok (.iconst 0, 1) := by decide +kernel
theorem dL_law_2002 : decode cL_law 2002 = .ok (.ireturn, 1) := by decide +kernel
