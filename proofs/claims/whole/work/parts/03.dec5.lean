theorem dX6_move_173 : decode cX6_move 173 = .ok (.iinc 7 1, 3) := by decide +kernel
theorem dX6_move_176 : decode cX6_move 176 = .ok (.goto (-39), 3) := by decide +kernel
theorem dX6_move_179 : decode cX6_move 179 = .ok (.iload_n 2, 1) := by decide +kernel
theorem dX6_move_180 : decode cX6_move 180 = .ok (.ifCond .lt 11, 3) := by decide +kernel
theorem dX6_move_183 : decode cX6_move 183 = .ok (.aload_n 0, 1) := by decide +kernel
theorem dX6_move_184 : decode cX6_move 184 = .ok (.getfield 38, 3) := by decide +kernel
theorem dX6_move_187 : decode cX6_move 187 = .ok (.iload_n 2, 1) := by decide +kernel
theorem dX6_move_188 : decode cX6_move 188 = .ok (.iload 5, 2) := by decide +kernel
theorem dX6_move_190 : decode cX6_move 190 = .ok (.iastore, 1) := by decide +kernel
theorem dX6_move_191 : decode cX6_move 191 = .ok (.iload 5, 2) := by decide +kernel
theorem dX6_move_193 : decode cX6_move 193 = .ok (.ireturn, 1) := by decide +kernel
theorem dX6_insideOf_0 : decode cX6_insideOf 0 = .ok (.iconst 0, 1) := by decide +kernel
theorem dX6_insideOf_1 : decode cX6_insideOf 1 = .ok (.istore_n 2, 1) := by decide +kernel
theorem dX6_insideOf_2 : decode cX6_insideOf 2 = .ok (.iconst 0, 1) := by decide +kernel
theorem dX6_insideOf_3 : decode cX6_insideOf 3 = .ok (.istore_n 3, 1) := by decide +kernel
theorem dX6_insideOf_4 : decode cX6_insideOf 4 = .ok (.iload_n 3, 1) := by decide +kernel
theorem dX6_insideOf_5 : decode cX6_insideOf 5 = .ok (.aload_n 0, 1) := by decide +kernel
theorem dX6_insideOf_6 : decode cX6_insideOf 6 = .ok (.getfield 94, 3) := by decide +kernel
theorem dX6_insideOf_9 : decode cX6_insideOf 9 = .ok (.if_icmp .ge 29, 3) := by decide +kernel
theorem dX6_insideOf_12 : decode cX6_insideOf 12 = .ok (.iload_n 2, 1) := by decide +kernel
theorem dX6_insideOf_13 : decode cX6_insideOf 13 = .ok (.aload_n 0, 1) := by decide +kernel
theorem dX6_insideOf_14 : decode cX6_insideOf 14 = .ok (.getfield 50, 3) := by decide +kernel
theorem dX6_insideOf_17 : decode cX6_insideOf 17 = .ok (.iload_n 3, 1) := by decide +kernel
theorem dX6_insideOf_18 : decode cX6_insideOf 18 = .ok (.iaload, 1) := by decide +kernel
theorem dX6_insideOf_19 : decode cX6_insideOf 19 = .ok (.iload_n 1, 1) := by decide +kernel
theorem dX6_insideOf_20 : decode cX6_insideOf 20 = .ok (.if_icmp .ne 9, 3) := by decide +kernel
theorem dX6_insideOf_23 : decode cX6_insideOf 23 = .ok (.iconst 1, 1) := by decide +kernel
theorem dX6_insideOf_24 : decode cX6_insideOf 24 = .ok (.iload_n 3, 1) := by decide +kernel
theorem dX6_insideOf_25 : decode cX6_insideOf 25 = .ok (.ishl, 1) := by decide +kernel
theorem dX6_insideOf_26 : decode cX6_insideOf 26 = .ok (.goto 4, 3) := by decide +kernel
theorem dX6_insideOf_29 : decode cX6_insideOf 29 = .ok (.iconst 0, 1) := by decide +kernel
theorem dX6_insideOf_30 : decode cX6_insideOf 30 = .ok (.ior, 1) := by decide +kernel
theorem dX6_insideOf_31 : decode cX6_insideOf 31 = .ok (.istore_n 2, 1) := by decide +kernel
theorem dX6_insideOf_32 : decode cX6_insideOf 32 = .ok (.iinc 3 1, 3) := by decide +kernel
theorem dX6_insideOf_35 : decode cX6_insideOf 35 = .ok (.goto (-31), 3) := by decide +kernel
theorem dX6_insideOf_38 : decode cX6_insideOf 38 = .ok (.iload_n 2, 1) := by decide +kernel
theorem dX6_insideOf_39 : decode cX6_insideOf 39 = .ok (.ireturn, 1) := by decide +kernel
theorem dX6_goBy_0 : decode cX6_goBy 0 = .ok (.aload_n 0, 1) := by decide +kernel
theorem dX6_goBy_1 : decode cX6_goBy 1 = .ok (.getfield 50, 3) := by decide +kernel
theorem dX6_goBy_4 : decode cX6_goBy 4 = .ok (.iload_n 1, 1) := by decide +kernel
theorem dX6_goBy_5 : decode cX6_goBy 5 = .ok (.iaload, 1) := by decide +kernel
theorem dX6_goBy_6 : decode cX6_goBy 6 = .ok (.istore_n 3, 1) := by decide +kernel
theorem dX6_goBy_7 : decode cX6_goBy 7 = .ok (.iload_n 3, 1) := by decide +kernel
theorem dX6_goBy_8 : decode cX6_goBy 8 = .ok (.ifCond .lt 30, 3) := by decide +kernel
theorem dX6_goBy_11 : decode cX6_goBy 11 = .ok (.aload_n 0, 1) := by decide +kernel
theorem dX6_goBy_12 : decode cX6_goBy 12 = .ok (.getfield 32, 3) := by decide +kernel
theorem dX6_goBy_15 : decode cX6_goBy 15 = .ok (.iload_n 3, 1) := by decide +kernel
theorem dX6_goBy_16 : decode cX6_goBy 16 = .ok (.iaload, 1) := by decide +kernel
theorem dX6_goBy_17 : decode cX6_goBy 17 = .ok (.iconst 3, 1) := by decide +kernel
theorem dX6_goBy_18 : decode cX6_goBy 18 = .ok (.if_icmp .ne 20, 3) := by decide +kernel
theorem dX6_goBy_21 : decode cX6_goBy 21 = .ok (.aload_n 0, 1) := by decide +kernel
theorem dX6_goBy_22 : decode cX6_goBy 22 = .ok (.getfield 44, 3) := by decide +kernel
theorem dX6_goBy_25 : decode cX6_goBy 25 = .ok (.iload_n 3, 1) := by decide +kernel
theorem dX6_goBy_26 : decode cX6_goBy 26 = .ok (.baload, 1) := by decide +kernel
theorem dX6_goBy_27 : decode cX6_goBy 27 = .ok (.ifCond .eq 8, 3) := by decide +kernel
theorem dX6_goBy_30 : decode cX6_goBy 30 = .ok (.bipush (-21), 2) := by decide +kernel
theorem dX6_goBy_32 : decode cX6_goBy 32 = .ok (.goto 5, 3) := by decide +kernel
theorem dX6_goBy_35 : decode cX6_goBy 35 = .ok (.bipush (-24), 2) := by decide +kernel
theorem dX6_goBy_37 : decode cX6_goBy 37 = .ok (.ireturn, 1) := by decide +kernel
theorem dX6_goBy_38 : decode cX6_goBy 38 = .ok (.aload_n 0, 1) := by decide +kernel
theorem dX6_goBy_39 : decode cX6_goBy 39 = .ok (.aload_n 0, 1) := by decide +kernel
theorem dX6_goBy_40 : decode cX6_goBy 40 = .ok (.getfield 47, 3) := by decide +kernel
theorem dX6_goBy_43 : decode cX6_goBy 43 = .ok (.iload_n 1, 1) := by decide +kernel
theorem dX6_goBy_44 : decode cX6_goBy 44 = .ok (.iaload, 1) := by decide +kernel
theorem dX6_goBy_45 : decode cX6_goBy 45 = .ok (.iload_n 2, 1) := by decide +kernel
theorem dX6_goBy_46 : decode cX6_goBy 46 = .ok (.iload_n 3, 1) := by decide +kernel
theorem dX6_goBy_47 : decode cX6_goBy 47 = .ok (.ifCond .ge 7, 3) := by decide +kernel
theorem dX6_goBy_50 : decode cX6_goBy 50 = .ok (.iconst 0, 1) := by decide +kernel
theorem dX6_goBy_51 : decode cX6_goBy 51 = .ok (.goto 9, 3) := by decide +kernel
theorem dX6_goBy_54 : decode cX6_goBy 54 = .ok (.aload_n 0, 1) := by decide +kernel
theorem dX6_goBy_55 : decode cX6_goBy 55 = .ok (.getfield 35, 3) := by decide +kernel
theorem dX6_goBy_58 : decode cX6_goBy 58 = .ok (.iload_n 3, 1) := by decide +kernel
theorem dX6_goBy_59 : decode cX6_goBy 59 = .ok (.iaload, 1) := by decide +kernel
theorem dX6_goBy_60 : decode cX6_goBy 60 = .ok (.invokevirtual 161, 3) := by decide +kernel
theorem dX6_goBy_63 : decode cX6_goBy 63 = .ok (.istore 4, 2) := by decide +kernel
theorem dX6_goBy_65 : decode cX6_goBy 65 = .ok (.iload 4, 2) := by decide +kernel
theorem dX6_goBy_67 : decode cX6_goBy 67 = .ok (.ifCond .le 7, 3) := by decide +kernel
theorem dX6_goBy_70 : decode cX6_goBy 70 = .ok (.iload 4, 2) := by decide +kernel
theorem dX6_goBy_72 : decode cX6_goBy 72 = .ok (.ineg, 1) := by decide +kernel
theorem dX6_goBy_73 : decode cX6_goBy 73 = .ok (.ireturn, 1) := by decide +kernel
theorem dX6_goBy_74 : decode cX6_goBy 74 = .ok (.aload_n 0, 1) := by decide +kernel
theorem dX6_goBy_75 : decode cX6_goBy 75 = .ok (.iload_n 3, 1) := by decide +kernel
theorem dX6_goBy_76 : decode cX6_goBy 76 = .ok (.ifCond .ge 9, 3) := by decide +kernel
theorem dX6_goBy_79 : decode cX6_goBy 79 = .ok (.iconst 1, 1) := by decide +kernel
theorem dX6_goBy_80 : decode cX6_goBy 80 = .ok (.iload_n 1, 1) := by decide +kernel
theorem dX6_goBy_81 : decode cX6_goBy 81 = .ok (.ishl, 1) := by decide +kernel
theorem dX6_goBy_82 : decode cX6_goBy 82 = .ok (.goto 8, 3) := by decide +kernel
theorem dX6_goBy_85 : decode cX6_goBy 85 = .ok (.aload_n 0, 1) := by decide +kernel
theorem dX6_goBy_86 : decode cX6_goBy 86 = .ok (.iload_n 3, 1) := by decide +kernel
theorem dX6_goBy_87 : decode cX6_goBy 87 = .ok (.invokevirtual 164, 3) := by decide +kernel
theorem dX6_goBy_90 : decode cX6_goBy 90 = .ok (.iload_n 3, 1) := by decide +kernel
theorem dX6_goBy_91 : decode cX6_goBy 91 = .ok (.aload_n 0, 1) := by decide +kernel
theorem dX6_goBy_92 : decode cX6_goBy 92 = .ok (.getfield 47, 3) := by decide +kernel
theorem dX6_goBy_95 : decode cX6_goBy 95 = .ok (.iload_n 1, 1) := by decide +kernel
theorem dX6_goBy_96 : decode cX6_goBy 96 = .ok (.iaload, 1) := by decide +kernel
theorem dX6_goBy_97 : decode cX6_goBy 97 = .ok (.iload_n 2, 1) := by decide +kernel
theorem dX6_goBy_98 : decode cX6_goBy 98 = .ok (.invokevirtual 167, 3) := by decide +kernel
theorem dX6_goBy_101 : decode cX6_goBy 101 = .ok (.ireturn, 1) := by decide +kernel
theorem dX6_go_0 : decode cX6_go 0 = .ok (.aload_n 0, 1) := by decide +kernel
theorem dX6_go_1 : decode cX6_go 1 = .ok (.iconst 0, 1) := by decide +kernel
theorem dX6_go_2 : decode cX6_go 2 = .ok (.putfield 77, 3) := by decide +kernel
theorem dX6_go_5 : decode cX6_go 5 = .ok (.aload_n 0, 1) := by decide +kernel
theorem dX6_go_6 : decode cX6_go 6 = .ok (.iload_n 1, 1) := by decide +kernel
theorem dX6_go_7 : decode cX6_go 7 = .ok (.invokevirtual 123, 3) := by decide +kernel
theorem dX6_go_10 : decode cX6_go 10 = .ok (.ifCond .eq 22, 3) := by decide +kernel
theorem dX6_go_13 : decode cX6_go 13 = .ok (.iload_n 2, 1) := by decide +kernel
theorem dX6_go_14 : decode cX6_go 14 = .ok (.iconst 0, 1) := by decide +kernel
theorem dX6_go_15 : decode cX6_go 15 = .ok (.bipush 7, 2) := by decide +kernel
theorem dX6_go_17 : decode cX6_go 17 = .ok (.invokestatic 84, 3) := by decide +kernel
theorem dX6_go_20 : decode cX6_go 20 = .ok (.ifCond .eq 12, 3) := by decide +kernel
theorem dX6_go_23 : decode cX6_go 23 = .ok (.aload_n 0, 1) := by decide +kernel
theorem dX6_go_24 : decode cX6_go 24 = .ok (.iload_n 1, 1) := by decide +kernel
theorem dX6_go_25 : decode cX6_go 25 = .ok (.iload_n 2, 1) := by decide +kernel
theorem dX6_go_26 : decode cX6_go 26 = .ok (.invokevirtual 171, 3) := by decide +kernel
theorem dX6_go_29 : decode cX6_go 29 = .ok (.goto 4, 3) := by decide +kernel
theorem dX6_go_32 : decode cX6_go 32 = .ok (.iconst (-1), 1) := by decide +kernel
theorem dX6_go_33 : decode cX6_go 33 = .ok (.ireturn, 1) := by decide +kernel
theorem dX6_push_0 : decode cX6_push 0 = .ok (.aload_n 0, 1) := by decide +kernel
theorem dX6_push_1 : decode cX6_push 1 = .ok (.iconst 0, 1) := by decide +kernel
theorem dX6_push_2 : decode cX6_push 2 = .ok (.putfield 77, 3) := by decide +kernel
theorem dX6_push_5 : decode cX6_push 5 = .ok (.aload_n 0, 1) := by decide +kernel
theorem dX6_push_6 : decode cX6_push 6 = .ok (.iload_n 1, 1) := by decide +kernel
theorem dX6_push_7 : decode cX6_push 7 = .ok (.invokevirtual 123, 3) := by decide +kernel
theorem dX6_push_10 : decode cX6_push 10 = .ok (.ifCond .eq 21, 3) := by decide +kernel
theorem dX6_push_13 : decode cX6_push 13 = .ok (.aload_n 0, 1) := by decide +kernel
theorem dX6_push_14 : decode cX6_push 14 = .ok (.iload_n 2, 1) := by decide +kernel
theorem dX6_push_15 : decode cX6_push 15 = .ok (.invokevirtual 111, 3) := by decide +kernel
theorem dX6_push_18 : decode cX6_push 18 = .ok (.ifCond .eq 13, 3) := by decide +kernel
theorem dX6_push_21 : decode cX6_push 21 = .ok (.iload_n 3, 1) := by decide +kernel
theorem dX6_push_22 : decode cX6_push 22 = .ok (.iconst 0, 1) := by decide +kernel
theorem dX6_push_23 : decode cX6_push 23 = .ok (.bipush 7, 2) := by decide +kernel
theorem dX6_push_25 : decode cX6_push 25 = .ok (.invokestatic 84, 3) := by decide +kernel
theorem dX6_push_28 : decode cX6_push 28 = .ok (.ifCond .ne 5, 3) := by decide +kernel
theorem dX6_push_31 : decode cX6_push 31 = .ok (.iconst (-1), 1) := by decide +kernel
theorem dX6_push_32 : decode cX6_push 32 = .ok (.ireturn, 1) := by decide +kernel
theorem dX6_push_33 : decode cX6_push 33 = .ok (.aload_n 0, 1) := by decide +kernel
theorem dX6_push_34 : decode cX6_push 34 = .ok (.iload_n 1, 1) := by decide +kernel
theorem dX6_push_35 : decode cX6_push 35 = .ok (.iload_n 2, 1) := by decide +kernel
theorem dX6_push_36 : decode cX6_push 36 = .ok (.invokevirtual 129, 3) := by decide +kernel
theorem dX6_push_39 : decode cX6_push 39 = .ok (.ifCond .ne 6, 3) := by decide +kernel
theorem dX6_push_42 : decode cX6_push 42 = .ok (.bipush (-10), 2) := by decide +kernel
theorem dX6_push_44 : decode cX6_push 44 = .ok (.ireturn, 1) := by decide +kernel
theorem dX6_push_45 : decode cX6_push 45 = .ok (.aload_n 0, 1) := by decide +kernel
theorem dX6_push_46 : decode cX6_push 46 = .ok (.getfield 32, 3) := by decide +kernel
theorem dX6_push_49 : decode cX6_push 49 = .ok (.iload_n 2, 1) := by decide +kernel
theorem dX6_push_50 : decode cX6_push 50 = .ok (.iaload, 1) := by decide +kernel
theorem dX6_push_51 : decode cX6_push 51 = .ok (.ifCond .eq 12, 3) := by decide +kernel
theorem dX6_push_54 : decode cX6_push 54 = .ok (.aload_n 0, 1) := by decide +kernel
theorem dX6_push_55 : decode cX6_push 55 = .ok (.getfield 41, 3) := by decide +kernel
theorem dX6_push_58 : decode cX6_push 58 = .ok (.iload_n 2, 1) := by decide +kernel
theorem dX6_push_59 : decode cX6_push 59 = .ok (.iaload, 1) := by decide +kernel
theorem dX6_push_60 : decode cX6_push 60 = .ok (.ifCond .lt 6, 3) := by decide +kernel
theorem dX6_push_63 : decode cX6_push 63 = .ok (.bipush (-30), 2) := by decide +kernel
theorem dX6_push_65 : decode cX6_push 65 = .ok (.ireturn, 1) := by decide +kernel
theorem dX6_push_66 : decode cX6_push 66 = .ok (.aload_n 0, 1) := by decide +kernel
theorem dX6_push_67 : decode cX6_push 67 = .ok (.getfield 50, 3) := by decide +kernel
theorem dX6_push_70 : decode cX6_push 70 = .ok (.iload_n 1, 1) := by decide +kernel
theorem dX6_push_71 : decode cX6_push 71 = .ok (.iaload, 1) := by decide +kernel
theorem dX6_push_72 : decode cX6_push 72 = .ok (.ifCond .lt 6, 3) := by decide +kernel
theorem dX6_push_75 : decode cX6_push 75 = .ok (.bipush (-20), 2) := by decide +kernel
theorem dX6_push_77 : decode cX6_push 77 = .ok (.ireturn, 1) := by decide +kernel
theorem dX6_push_78 : decode cX6_push 78 = .ok (.aload_n 0, 1) := by decide +kernel
theorem dX6_push_79 : decode cX6_push 79 = .ok (.aload_n 0, 1) := by decide +kernel
theorem dX6_push_80 : decode cX6_push 80 = .ok (.getfield 47, 3) := by decide +kernel
theorem dX6_push_83 : decode cX6_push 83 = .ok (.iload_n 1, 1) := by decide +kernel
theorem dX6_push_84 : decode cX6_push 84 = .ok (.iaload, 1) := by decide +kernel
theorem dX6_push_85 : decode cX6_push 85 = .ok (.iload_n 3, 1) := by decide +kernel
theorem dX6_push_86 : decode cX6_push 86 = .ok (.aload_n 0, 1) := by decide +kernel
theorem dX6_push_87 : decode cX6_push 87 = .ok (.getfield 35, 3) := by decide +kernel
theorem dX6_push_90 : decode cX6_push 90 = .ok (.iload_n 2, 1) := by decide +kernel
theorem dX6_push_91 : decode cX6_push 91 = .ok (.iaload, 1) := by decide +kernel
theorem dX6_push_92 : decode cX6_push 92 = .ok (.invokevirtual 161, 3) := by decide +kernel
theorem dX6_push_95 : decode cX6_push 95 = .ok (.istore 4, 2) := by decide +kernel
theorem dX6_push_97 : decode cX6_push 97 = .ok (.iload 4, 2) := by decide +kernel
theorem dX6_push_99 : decode cX6_push 99 = .ok (.ifCond .le 9, 3) := by decide +kernel
theorem dX6_push_102 : decode cX6_push 102 = .ok (.iload 4, 2) := by decide +kernel
theorem dX6_push_104 : decode cX6_push 104 = .ok (.ineg, 1) := by decide +kernel
theorem dX6_push_105 : decode cX6_push 105 = .ok (.goto 24, 3) := by decide +kernel
theorem dX6_push_108 : decode cX6_push 108 = .ok (.aload_n 0, 1) := by decide +kernel
theorem dX6_push_109 : decode cX6_push 109 = .ok (.aload_n 0, 1) := by decide +kernel
theorem dX6_push_110 : decode cX6_push 110 = .ok (.iload_n 2, 1) := by decide +kernel
theorem dX6_push_111 : decode cX6_push 111 = .ok (.invokevirtual 164, 3) := by decide +kernel
theorem dX6_push_114 : decode cX6_push 114 = .ok (.iconst 1, 1) := by decide +kernel
theorem dX6_push_115 : decode cX6_push 115 = .ok (.iload_n 1, 1) := by decide +kernel
theorem dX6_push_116 : decode cX6_push 116 = .ok (.ishl, 1) := by decide +kernel
theorem dX6_push_117 : decode cX6_push 117 = .ok (.ior, 1) := by decide +kernel
theorem dX6_push_118 : decode cX6_push 118 = .ok (.iload_n 2, 1) := by decide +kernel
theorem dX6_push_119 : decode cX6_push 119 = .ok (.aload_n 0, 1) := by decide +kernel
theorem dX6_push_120 : decode cX6_push 120 = .ok (.getfield 47, 3) := by decide +kernel
theorem dX6_push_123 : decode cX6_push 123 = .ok (.iload_n 1, 1) := by decide +kernel
theorem dX6_push_124 : decode cX6_push 124 = .ok (.iaload, 1) := by decide +kernel
theorem dX6_push_125 : decode cX6_push 125 = .ok (.iload_n 3, 1) := by decide +kernel
theorem dX6_push_126 : decode cX6_push 126 = .ok (.invokevirtual 167, 3) := by decide +kernel
theorem dX6_push_129 : decode cX6_push 129 = .ok (.ireturn, 1) := by decide +kernel
theorem dX6_back_0 : decode cX6_back 0 = .ok (.aload_n 0, 1) := by decide +kernel
theorem dX6_back_1 : decode cX6_back 1 = .ok (.iconst 0, 1) := by decide +kernel
theorem dX6_back_2 : decode cX6_back 2 = .ok (.putfield 77, 3) := by decide +kernel
theorem dX6_back_5 : decode cX6_back 5 = .ok (.aload_n 0, 1) := by decide +kernel
theorem dX6_back_6 : decode cX6_back 6 = .ok (.iload_n 1, 1) := by decide +kernel
theorem dX6_back_7 : decode cX6_back 7 = .ok (.invokevirtual 123, 3) := by decide +kernel
theorem dX6_back_10 : decode cX6_back 10 = .ok (.ifCond .ne 5, 3) := by decide +kernel
theorem dX6_back_13 : decode cX6_back 13 = .ok (.iconst (-1), 1) := by decide +kernel
theorem dX6_back_14 : decode cX6_back 14 = .ok (.ireturn, 1) := by decide +kernel
theorem dX6_back_15 : decode cX6_back 15 = .ok (.iconst 0, 1) := by decide +kernel
theorem dX6_back_16 : decode cX6_back 16 = .ok (.istore_n 2, 1) := by decide +kernel
theorem dX6_back_17 : decode cX6_back 17 = .ok (.iload_n 2, 1) := by decide +kernel
theorem dX6_back_18 : decode cX6_back 18 = .ok (.bipush 8, 2) := by decide +kernel
theorem dX6_back_20 : decode cX6_back 20 = .ok (.if_icmp .ge 45, 3) := by decide +kernel
theorem dX6_back_23 : decode cX6_back 23 = .ok (.aload_n 0, 1) := by decide +kernel
theorem dX6_back_24 : decode cX6_back 24 = .ok (.getfield 53, 3) := by decide +kernel
theorem dX6_back_27 : decode cX6_back 27 = .ok (.iload_n 1, 1) := by decide +kernel
theorem dX6_back_28 : decode cX6_back 28 = .ok (.iaload, 1) := by decide +kernel
theorem dX6_back_29 : decode cX6_back 29 = .ok (.ifCond .lt 36, 3) := by decide +kernel
theorem dX6_back_32 : decode cX6_back 32 = .ok (.aload_n 0, 1) := by decide +kernel
theorem dX6_back_33 : decode cX6_back 33 = .ok (.aload_n 0, 1) := by decide +kernel
theorem dX6_back_34 : decode cX6_back 34 = .ok (.getfield 47, 3) := by decide +kernel
theorem dX6_back_37 : decode cX6_back 37 = .ok (.iload_n 1, 1) := by decide +kernel
theorem dX6_back_38 : decode cX6_back 38 = .ok (.iaload, 1) := by decide +kernel
theorem dX6_back_39 : decode cX6_back 39 = .ok (.iload_n 2, 1) := by decide +kernel
theorem dX6_back_40 : decode cX6_back 40 = .ok (.invokevirtual 150, 3) := by decide +kernel
theorem dX6_back_43 : decode cX6_back 43 = .ok (.aload_n 0, 1) := by decide +kernel
theorem dX6_back_44 : decode cX6_back 44 = .ok (.getfield 53, 3) := by decide +kernel
theorem dX6_back_47 : decode cX6_back 47 = .ok (.iload_n 1, 1) := by decide +kernel
theorem dX6_back_48 : decode cX6_back 48 = .ok (.iaload, 1) := by decide +kernel
theorem dX6_back_49 : decode cX6_back 49 = .ok (.if_icmp .ne 10, 3) := by decide +kernel
theorem dX6_back_52 : decode cX6_back 52 = .ok (.aload_n 0, 1) := by decide +kernel
theorem dX6_back_53 : decode cX6_back 53 = .ok (.iload_n 1, 1) := by decide +kernel
theorem dX6_back_54 : decode cX6_back 54 = .ok (.iload_n 2, 1) := by decide +kernel
theorem dX6_back_55 : decode cX6_back 55 = .ok (.invokevirtual 171, 3) := by decide +kernel
theorem dX6_back_58 : decode cX6_back 58 = .ok (.ireturn, 1) := by decide +kernel
theorem dX6_back_59 : decode cX6_back 59 = .ok (.iinc 2 1, 3) := by decide +kernel
theorem dX6_back_62 : decode cX6_back 62 = .ok (.goto (-45), 3) := by decide +kernel
theorem dX6_back_65 : decode cX6_back 65 = .ok (.iconst 0, 1) := by decide +kernel
theorem dX6_back_66 : decode cX6_back 66 = .ok (.ireturn, 1) := by decide +kernel
theorem dX6_measure_0 : decode cX6_measure 0 = .ok (.iconst 0, 1) := by decide +kernel
theorem dX6_measure_1 : decode cX6_measure 1 = .ok (.istore_n 2, 1) := by decide +kernel
theorem dX6_measure_2 : decode cX6_measure 2 = .ok (.iload_n 2, 1) := by decide +kernel
theorem dX6_measure_3 : decode cX6_measure 3 = .ok (.bipush 20, 2) := by decide +kernel
theorem dX6_measure_5 : decode cX6_measure 5 = .ok (.if_icmp .ge 26, 3) := by decide +kernel
theorem dX6_measure_8 : decode cX6_measure 8 = .ok (.aload_n 0, 1) := by decide +kernel
theorem dX6_measure_9 : decode cX6_measure 9 = .ok (.getfield 74, 3) := by decide +kernel
theorem dX6_measure_12 : decode cX6_measure 12 = .ok (.iload_n 2, 1) := by decide +kernel
theorem dX6_measure_13 : decode cX6_measure 13 = .ok (.iload_n 2, 1) := by decide +kernel
theorem dX6_measure_14 : decode cX6_measure 14 = .ok (.iload_n 1, 1) := by decide +kernel
theorem dX6_measure_15 : decode cX6_measure 15 = .ok (.if_icmp .ne 7, 3) := by decide +kernel
theorem dX6_measure_18 : decode cX6_measure 18 = .ok (.iconst 0, 1) := by decide +kernel
theorem dX6_measure_19 : decode cX6_measure 19 = .ok (.goto 5, 3) := by decide +kernel
theorem dX6_measure_22 : decode cX6_measure 22 = .ok (.bipush 99, 2) := by decide +kernel
theorem dX6_measure_24 : decode cX6_measure 24 = .ok (.iastore, 1) := by decide +kernel
theorem dX6_measure_25 : decode cX6_measure 25 = .ok (.iinc 2 1, 3) := by decide +kernel
theorem dX6_measure_28 : decode cX6_measure 28 = .ok (.goto (-26), 3) := by decide +kernel
theorem dX6_measure_31 : decode cX6_measure 31 = .ok (.iconst 0, 1) := by decide +kernel
theorem dX6_measure_32 : decode cX6_measure 32 = .ok (.istore_n 2, 1) := by decide +kernel
theorem dX6_measure_33 : decode cX6_measure 33 = .ok (.iload_n 2, 1) := by decide +kernel
theorem dX6_measure_34 : decode cX6_measure 34 = .ok (.aload_n 0, 1) := by decide +kernel
theorem dX6_measure_35 : decode cX6_measure 35 = .ok (.getfield 81, 3) := by decide +kernel
theorem dX6_measure_38 : decode cX6_measure 38 = .ok (.if_icmp .ge 86, 3) := by decide +kernel
theorem dX6_measure_41 : decode cX6_measure 41 = .ok (.iconst 0, 1) := by decide +kernel
theorem dX6_measure_42 : decode cX6_measure 42 = .ok (.istore_n 3, 1) := by decide +kernel
theorem dX6_measure_43 : decode cX6_measure 43 = .ok (.iload_n 3, 1) := by decide +kernel
theorem dX6_measure_44 : decode cX6_measure 44 = .ok (.bipush 8, 2) := by decide +kernel
theorem dX6_measure_46 : decode cX6_measure 46 = .ok (.aload_n 0, 1) := by decide +kernel
theorem dX6_measure_47 : decode cX6_measure 47 = .ok (.getfield 81, 3) := by decide +kernel
theorem dX6_measure_50 : decode cX6_measure 50 = .ok (.imul, 1) := by decide +kernel
theorem dX6_measure_51 : decode cX6_measure 51 = .ok (.if_icmp .ge 67, 3) := by decide +kernel
theorem dX6_measure_54 : decode cX6_measure 54 = .ok (.aload_n 0, 1) := by decide +kernel
theorem dX6_measure_55 : decode cX6_measure 55 = .ok (.iload_n 3, 1) := by decide +kernel
theorem dX6_measure_56 : decode cX6_measure 56 = .ok (.bipush 8, 2) := by decide +kernel
theorem dX6_measure_58 : decode cX6_measure 58 = .ok (.idiv, 1) := by decide +kernel
theorem dX6_measure_59 : decode cX6_measure 59 = .ok (.iload_n 3, 1) := by decide +kernel
theorem dX6_measure_60 : decode cX6_measure 60 = .ok (.bipush 8, 2) := by decide +kernel
theorem dX6_measure_62 : decode cX6_measure 62 = .ok (.irem, 1) := by decide +kernel
theorem dX6_measure_63 : decode cX6_measure 63 = .ok (.invokevirtual 150, 3) := by decide +kernel
theorem dX6_measure_66 : decode cX6_measure 66 = .ok (.istore 4, 2) := by decide +kernel
theorem dX6_measure_68 : decode cX6_measure 68 = .ok (.iload 4, 2) := by decide +kernel
theorem dX6_measure_70 : decode cX6_measure 70 = .ok (.ifCond .lt 42, 3) := by decide +kernel
theorem dX6_measure_73 : decode cX6_measure 73 = .ok (.aload_n 0, 1) := by decide +kernel
theorem dX6_measure_74 : decode cX6_measure 74 = .ok (.getfield 74, 3) := by decide +kernel
theorem dX6_measure_77 : decode cX6_measure 77 = .ok (.iload 4, 2) := by decide +kernel
theorem dX6_measure_79 : decode cX6_measure 79 = .ok (.iaload, 1) := by decide +kernel
theorem dX6_measure_80 : decode cX6_measure 80 = .ok (.iconst 1, 1) := by decide +kernel
theorem dX6_measure_81 : decode cX6_measure 81 = .ok (.iadd, 1) := by decide +kernel
theorem dX6_measure_82 : decode cX6_measure 82 = .ok (.aload_n 0, 1) := by decide +kernel
theorem dX6_measure_83 : decode cX6_measure 83 = .ok (.getfield 74, 3) := by decide +kernel
theorem dX6_measure_86 : decode cX6_measure 86 = .ok (.iload_n 3, 1) := by decide +kernel
theorem dX6_measure_87 : decode cX6_measure 87 = .ok (.bipush 8, 2) := by decide +kernel
theorem dX6_measure_89 : decode cX6_measure 89 = .ok (.idiv, 1) := by decide +kernel
theorem dX6_measure_90 : decode cX6_measure 90 = .ok (.iaload, 1) := by decide +kernel
theorem dX6_measure_91 : decode cX6_measure 91 = .ok (.if_icmp .ge 21, 3) := by decide +kernel
theorem dX6_measure_94 : decode cX6_measure 94 = .ok (.aload_n 0, 1) := by decide +kernel
theorem dX6_measure_95 : decode cX6_measure 95 = .ok (.getfield 74, 3) := by decide +kernel
theorem dX6_measure_98 : decode cX6_measure 98 = .ok (.iload_n 3, 1) := by decide +kernel
theorem dX6_measure_99 : decode cX6_measure 99 = .ok (.bipush 8, 2) := by decide +kernel
theorem dX6_measure_101 : decode cX6_measure 101 = .ok (.idiv, 1) := by decide +kernel
theorem dX6_measure_102 : decode cX6_measure 102 = .ok (.aload_n 0, 1) := by decide +kernel
theorem dX6_measure_103 : decode cX6_measure 103 = .ok (.getfield 74, 3) := by decide +kernel
theorem dX6_measure_106 : decode cX6_measure 106 = .ok (.iload 4, 2) := by decide +kernel
theorem dX6_measure_108 : decode cX6_measure 108 = .ok (.iaload, 1) := by decide +kernel
theorem dX6_measure_109 : decode cX6_measure 109 = .ok (.iconst 1, 1) := by decide +kernel
theorem dX6_measure_110 : decode cX6_measure 110 = .ok (.iadd, 1) := by decide +kernel
theorem dX6_measure_111 : decode cX6_measure 111 = .ok (.iastore, 1) := by decide +kernel
theorem dX6_measure_112 : decode cX6_measure 112 = .ok (.iinc 3 1, 3) := by decide +kernel
theorem dX6_measure_115 : decode cX6_measure 115 = .ok (.goto (-72), 3) := by decide +kernel
theorem dX6_measure_118 : decode cX6_measure 118 = .ok (.iinc 2 1, 3) := by decide +kernel
theorem dX6_measure_121 : decode cX6_measure 121 = .ok (.goto (-88), 3) := by decide +kernel
theorem dX6_measure_124 : decode cX6_measure 124 = .ok (.return_, 1) := by decide +kernel
theorem dX6_step_0 : decode cX6_step 0 = .ok (.iconst 0, 1) := by decide +kernel
theorem dX6_step_1 : decode cX6_step 1 = .ok (.istore_n 2, 1) := by decide +kernel
theorem dX6_step_2 : decode cX6_step 2 = .ok (.iload_n 2, 1) := by decide +kernel
theorem dX6_step_3 : decode cX6_step 3 = .ok (.bipush 8, 2) := by decide +kernel
theorem dX6_step_5 : decode cX6_step 5 = .ok (.if_icmp .ge 39, 3) := by decide +kernel
theorem dX6_step_8 : decode cX6_step 8 = .ok (.aload_n 0, 1) := by decide +kernel
theorem dX6_step_9 : decode cX6_step 9 = .ok (.iload_n 1, 1) := by decide +kernel
theorem dX6_step_10 : decode cX6_step 10 = .ok (.iload_n 2, 1) := by decide +kernel
theorem dX6_step_11 : decode cX6_step 11 = .ok (.invokevirtual 150, 3) := by decide +kernel
theorem dX6_step_14 : decode cX6_step 14 = .ok (.istore_n 3, 1) := by decide +kernel
theorem dX6_step_15 : decode cX6_step 15 = .ok (.iload_n 3, 1) := by decide +kernel
theorem dX6_step_16 : decode cX6_step 16 = .ok (.ifCond .lt 22, 3) := by decide +kernel
theorem dX6_step_19 : decode cX6_step 19 = .ok (.aload_n 0, 1) := by decide +kernel
theorem dX6_step_20 : decode cX6_step 20 = .ok (.getfield 74, 3) := by decide +kernel
theorem dX6_step_23 : decode cX6_step 23 = .ok (.iload_n 3, 1) := by decide +kernel
theorem dX6_step_24 : decode cX6_step 24 = .ok (.iaload, 1) := by decide +kernel
theorem dX6_step_25 : decode cX6_step 25 = .ok (.iconst 1, 1) := by decide +kernel
theorem dX6_step_26 : decode cX6_step 26 = .ok (.iadd, 1) := by decide +kernel
theorem dX6_step_27 : decode cX6_step 27 = .ok (.aload_n 0, 1) := by decide +kernel
theorem dX6_step_28 : decode cX6_step 28 = .ok (.getfield 74, 3) := by decide +kernel
theorem dX6_step_31 : decode cX6_step 31 = .ok (.iload_n 1, 1) := by decide +kernel
theorem dX6_step_32 : decode cX6_step 32 = .ok (.iaload, 1) := by decide +kernel
theorem dX6_step_33 : decode cX6_step 33 = .ok (.if_icmp .ne 5, 3) := by decide +kernel
theorem dX6_step_36 : decode cX6_step 36 = .ok (.iload_n 2, 1) := by decide +kernel
theorem dX6_step_37 : decode cX6_step 37 = .ok (.ireturn, 1) := by decide +kernel
theorem dX6_step_38 : decode cX6_step 38 = .ok (.iinc 2 1, 3) := by decide +kernel
theorem dX6_step_41 : decode cX6_step 41 = .ok (.goto (-39), 3) := by decide +kernel
theorem dX6_step_44 : decode cX6_step 44 = .ok (.iconst (-1), 1) := by decide +kernel
theorem dX6_step_45 : decode cX6_step 45 = .ok (.ireturn, 1) := by decide +kernel
theorem dX6_follow_0 : decode cX6_follow 0 = .ok (.aload_n 0, 1) := by decide +kernel
theorem dX6_follow_1 : decode cX6_follow 1 = .ok (.iconst 0, 1) := by decide +kernel
theorem dX6_follow_2 : decode cX6_follow 2 = .ok (.putfield 77, 3) := by decide +kernel
theorem dX6_follow_5 : decode cX6_follow 5 = .ok (.aload_n 0, 1) := by decide +kernel
theorem dX6_follow_6 : decode cX6_follow 6 = .ok (.iload_n 1, 1) := by decide +kernel
theorem dX6_follow_7 : decode cX6_follow 7 = .ok (.invokevirtual 123, 3) := by decide +kernel
theorem dX6_follow_10 : decode cX6_follow 10 = .ok (.ifCond .eq 11, 3) := by decide +kernel
theorem dX6_follow_13 : decode cX6_follow 13 = .ok (.aload_n 0, 1) := by decide +kernel
theorem dX6_follow_14 : decode cX6_follow 14 = .ok (.iload_n 2, 1) := by decide +kernel
theorem dX6_follow_15 : decode cX6_follow 15 = .ok (.invokevirtual 123, 3) := by decide +kernel
theorem dX6_follow_18 : decode cX6_follow 18 = .ok (.ifCond .ne 5, 3) := by decide +kernel
theorem dX6_follow_21 : decode cX6_follow 21 = .ok (.iconst (-1), 1) := by decide +kernel
theorem dX6_follow_22 : decode cX6_follow 22 = .ok (.ireturn, 1) := by decide +kernel
theorem dX6_follow_23 : decode cX6_follow 23 = .ok (.aload_n 0, 1) := by decide +kernel
theorem dX6_follow_24 : decode cX6_follow 24 = .ok (.getfield 47, 3) := by decide +kernel
theorem dX6_follow_27 : decode cX6_follow 27 = .ok (.iload_n 1, 1) := by decide +kernel
theorem dX6_follow_28 : decode cX6_follow 28 = .ok (.iaload, 1) := by decide +kernel
theorem dX6_follow_29 : decode cX6_follow 29 = .ok (.aload_n 0, 1) := by decide +kernel
theorem dX6_follow_30 : decode cX6_follow 30 = .ok (.getfield 47, 3) := by decide +kernel
theorem dX6_follow_33 : decode cX6_follow 33 = .ok (.iload_n 2, 1) := by decide +kernel
theorem dX6_follow_34 : decode cX6_follow 34 = .ok (.iaload, 1) := by decide +kernel
theorem dX6_follow_35 : decode cX6_follow 35 = .ok (.if_icmp .ne 10, 3) := by decide +kernel
theorem dX6_follow_38 : decode cX6_follow 38 = .ok (.aload_n 0, 1) := by decide +kernel
theorem dX6_follow_39 : decode cX6_follow 39 = .ok (.getfield 47, 3) := by decide +kernel
theorem dX6_follow_42 : decode cX6_follow 42 = .ok (.iload_n 1, 1) := by decide +kernel
theorem dX6_follow_43 : decode cX6_follow 43 = .ok (.iaload, 1) := by decide +kernel
theorem dX6_follow_44 : decode cX6_follow 44 = .ok (.ireturn, 1) := by decide +kernel
theorem dX6_follow_45 : decode cX6_follow 45 = .ok (.aload_n 0, 1) := by decide +kernel
theorem dX6_follow_46 : decode cX6_follow 46 = .ok (.aload_n 0, 1) := by decide +kernel
theorem dX6_follow_47 : decode cX6_follow 47 = .ok (.getfield 47, 3) := by decide +kernel
theorem dX6_follow_50 : decode cX6_follow 50 = .ok (.iload_n 2, 1) := by decide +kernel
theorem dX6_follow_51 : decode cX6_follow 51 = .ok (.iaload, 1) := by decide +kernel
theorem dX6_follow_52 : decode cX6_follow 52 = .ok (.invokevirtual 174, 3) := by decide +kernel
theorem dX6_follow_55 : decode cX6_follow 55 = .ok (.aload_n 0, 1) := by decide +kernel
theorem dX6_follow_56 : decode cX6_follow 56 = .ok (.getfield 74, 3) := by decide +kernel
theorem dX6_follow_59 : decode cX6_follow 59 = .ok (.aload_n 0, 1) := by decide +kernel
theorem dX6_follow_60 : decode cX6_follow 60 = .ok (.getfield 47, 3) := by decide +kernel
theorem dX6_follow_63 : decode cX6_follow 63 = .ok (.iload_n 1, 1) := by decide +kernel
theorem dX6_follow_64 : decode cX6_follow 64 = .ok (.iaload, 1) := by decide +kernel
theorem dX6_follow_65 : decode cX6_follow 65 = .ok (.iaload, 1) := by decide +kernel
theorem dX6_follow_66 : decode cX6_follow 66 = .ok (.bipush 99, 2) := by decide +kernel
theorem dX6_follow_68 : decode cX6_follow 68 = .ok (.if_icmp .ne 8, 3) := by decide +kernel
theorem dX6_follow_71 : decode cX6_follow 71 = .ok (.bipush (-31), 2) := by decide +kernel
theorem dX6_follow_73 : decode cX6_follow 73 = .ok (.goto 18, 3) := by decide +kernel
theorem dX6_follow_76 : decode cX6_follow 76 = .ok (.aload_n 0, 1) := by decide +kernel
theorem dX6_follow_77 : decode cX6_follow 77 = .ok (.iload_n 1, 1) := by decide +kernel
theorem dX6_follow_78 : decode cX6_follow 78 = .ok (.aload_n 0, 1) := by decide +kernel
theorem dX6_follow_79 : decode cX6_follow 79 = .ok (.aload_n 0, 1) := by decide +kernel
theorem dX6_follow_80 : decode cX6_follow 80 = .ok (.getfield 47, 3) := by decide +kernel
theorem dX6_follow_83 : decode cX6_follow 83 = .ok (.iload_n 1, 1) := by decide +kernel
theorem dX6_follow_84 : decode cX6_follow 84 = .ok (.iaload, 1) := by decide +kernel
theorem dX6_follow_85 : decode cX6_follow 85 = .ok (.invokevirtual 178, 3) := by decide +kernel
theorem dX6_follow_88 : decode cX6_follow 88 = .ok (.invokevirtual 171, 3) := by decide +kernel
theorem dX6_follow_91 : decode cX6_follow 91 = .ok (.ireturn, 1) := by decide +kernel
theorem dX6_route_0 : decode cX6_route 0 = .ok (.aload_n 0, 1) := by decide +kernel
theorem dX6_route_1 : decode cX6_route 1 = .ok (.iconst 0, 1) := by decide +kernel
theorem dX6_route_2 : decode cX6_route 2 = .ok (.putfield 77, 3) := by decide +kernel
theorem dX6_route_5 : decode cX6_route 5 = .ok (.aload_n 0, 1) := by decide +kernel
theorem dX6_route_6 : decode cX6_route 6 = .ok (.iload_n 1, 1) := by decide +kernel
theorem dX6_route_7 : decode cX6_route 7 = .ok (.invokevirtual 97, 3) := by decide +kernel
theorem dX6_route_10 : decode cX6_route 10 = .ok (.ifCond .eq 16, 3) := by decide +kernel
theorem dX6_route_13 : decode cX6_route 13 = .ok (.aload_n 0, 1) := by decide +kernel
theorem dX6_route_14 : decode cX6_route 14 = .ok (.iload_n 2, 1) := by decide +kernel
theorem dX6_route_15 : decode cX6_route 15 = .ok (.invokevirtual 97, 3) := by decide +kernel
theorem dX6_route_18 : decode cX6_route 18 = .ok (.ifCond .eq 8, 3) := by decide +kernel
theorem dX6_route_21 : decode cX6_route 21 = .ok (.iload_n 3, 1) := by decide +kernel
theorem dX6_route_22 : decode cX6_route 22 = .ok (.iconst (-1), 1) := by decide +kernel
theorem dX6_route_23 : decode cX6_route 23 = .ok (.if_icmp .ge 5, 3) := by decide +kernel
theorem dX6_route_26 : decode cX6_route 26 = .ok (.iconst (-1), 1) := by decide +kernel
theorem dX6_route_27 : decode cX6_route 27 = .ok (.ireturn, 1) := by decide +kernel
theorem dX6_route_28 : decode cX6_route 28 = .ok (.aload_n 0, 1) := by decide +kernel
theorem dX6_route_29 : decode cX6_route 29 = .ok (.iload_n 2, 1) := by decide +kernel
theorem dX6_route_30 : decode cX6_route 30 = .ok (.invokevirtual 174, 3) := by decide +kernel
theorem dX6_route_33 : decode cX6_route 33 = .ok (.aload_n 0, 1) := by decide +kernel
theorem dX6_route_34 : decode cX6_route 34 = .ok (.getfield 74, 3) := by decide +kernel
theorem dX6_route_37 : decode cX6_route 37 = .ok (.iload_n 1, 1) := by decide +kernel
theorem dX6_route_38 : decode cX6_route 38 = .ok (.iaload, 1) := by decide +kernel
theorem dX6_route_39 : decode cX6_route 39 = .ok (.bipush 99, 2) := by decide +kernel
theorem dX6_route_41 : decode cX6_route 41 = .ok (.if_icmp .eq 13, 3) := by decide +kernel
theorem dX6_route_44 : decode cX6_route 44 = .ok (.iload_n 3, 1) := by decide +kernel
theorem dX6_route_45 : decode cX6_route 45 = .ok (.aload_n 0, 1) := by decide +kernel
theorem dX6_route_46 : decode cX6_route 46 = .ok (.getfield 74, 3) := by decide +kernel
theorem dX6_route_49 : decode cX6_route 49 = .ok (.iload_n 1, 1) := by decide +kernel
theorem dX6_route_50 : decode cX6_route 50 = .ok (.iaload, 1) := by decide +kernel
theorem dX6_route_51 : decode cX6_route 51 = .ok (.if_icmp .lt 5, 3) := by decide +kernel
theorem dX6_route_54 : decode cX6_route 54 = .ok (.iconst (-1), 1) := by decide +kernel
theorem dX6_route_55 : decode cX6_route 55 = .ok (.ireturn, 1) := by decide +kernel
theorem dX6_route_56 : decode cX6_route 56 = .ok (.iload_n 3, 1) := by decide +kernel
theorem dX6_route_57 : decode cX6_route 57 = .ok (.iconst (-1), 1) := by decide +kernel
theorem dX6_route_58 : decode cX6_route 58 = .ok (.if_icmp .ne 10, 3) := by decide +kernel
theorem dX6_route_61 : decode cX6_route 61 = .ok (.aload_n 0, 1) := by decide +kernel
theorem dX6_route_62 : decode cX6_route 62 = .ok (.getfield 74, 3) := by decide +kernel
theorem dX6_route_65 : decode cX6_route 65 = .ok (.iload_n 1, 1) := by decide +kernel
theorem dX6_route_66 : decode cX6_route 66 = .ok (.iaload, 1) := by decide +kernel
theorem dX6_route_67 : decode cX6_route 67 = .ok (.ireturn, 1) := by decide +kernel
theorem dX6_route_68 : decode cX6_route 68 = .ok (.iload_n 1, 1) := by decide +kernel
theorem dX6_route_69 : decode cX6_route 69 = .ok (.istore 4, 2) := by decide +kernel
theorem dX6_route_71 : decode cX6_route 71 = .ok (.iconst 0, 1) := by decide +kernel
theorem dX6_route_72 : decode cX6_route 72 = .ok (.istore 5, 2) := by decide +kernel
theorem dX6_route_74 : decode cX6_route 74 = .ok (.iload 5, 2) := by decide +kernel
theorem dX6_route_76 : decode cX6_route 76 = .ok (.iload_n 3, 1) := by decide +kernel
theorem dX6_route_77 : decode cX6_route 77 = .ok (.if_icmp .ge 23, 3) := by decide +kernel
theorem dX6_route_80 : decode cX6_route 80 = .ok (.aload_n 0, 1) := by decide +kernel
theorem dX6_route_81 : decode cX6_route 81 = .ok (.iload 4, 2) := by decide +kernel
theorem dX6_route_83 : decode cX6_route 83 = .ok (.aload_n 0, 1) := by decide +kernel
theorem dX6_route_84 : decode cX6_route 84 = .ok (.iload 4, 2) := by decide +kernel
theorem dX6_route_86 : decode cX6_route 86 = .ok (.invokevirtual 178, 3) := by decide +kernel
theorem dX6_route_89 : decode cX6_route 89 = .ok (.invokevirtual 150, 3) := by decide +kernel
theorem dX6_route_92 : decode cX6_route 92 = .ok (.istore 4, 2) := by decide +kernel
theorem dX6_route_94 : decode cX6_route 94 = .ok (.iinc 5 1, 3) := by decide +kernel
theorem dX6_route_97 : decode cX6_route 97 = .ok (.goto (-23), 3) := by decide +kernel
theorem dX6_route_100 : decode cX6_route 100 = .ok (.aload_n 0, 1) := by decide +kernel
theorem dX6_route_101 : decode cX6_route 101 = .ok (.iload 4, 2) := by decide +kernel
theorem dX6_route_103 : decode cX6_route 103 = .ok (.invokevirtual 178, 3) := by decide +kernel
theorem dX6_route_106 : decode cX6_route 106 = .ok (.ireturn, 1) := by decide +kernel
theorem dX6_way_0 : decode cX6_way 0 = .ok (.aload_n 0, 1) := by decide +kernel
theorem dX6_way_1 : decode cX6_way 1 = .ok (.iconst 0, 1) := by decide +kernel
theorem dX6_way_2 : decode cX6_way 2 = .ok (.putfield 77, 3) := by decide +kernel
theorem dX6_way_5 : decode cX6_way 5 = .ok (.aload_n 0, 1) := by decide +kernel
theorem dX6_way_6 : decode cX6_way 6 = .ok (.iload_n 1, 1) := by decide +kernel
theorem dX6_way_7 : decode cX6_way 7 = .ok (.invokevirtual 97, 3) := by decide +kernel
theorem dX6_way_10 : decode cX6_way 10 = .ok (.ifCond .eq 27, 3) := by decide +kernel
theorem dX6_way_13 : decode cX6_way 13 = .ok (.iload_n 2, 1) := by decide +kernel
theorem dX6_way_14 : decode cX6_way 14 = .ok (.iconst 0, 1) := by decide +kernel
theorem dX6_way_15 : decode cX6_way 15 = .ok (.bipush 7, 2) := by decide +kernel
theorem dX6_way_17 : decode cX6_way 17 = .ok (.invokestatic 84, 3) := by decide +kernel
theorem dX6_way_20 : decode cX6_way 20 = .ok (.ifCond .eq 17, 3) := by decide +kernel
theorem dX6_way_23 : decode cX6_way 23 = .ok (.aload_n 0, 1) := by decide +kernel
theorem dX6_way_24 : decode cX6_way 24 = .ok (.getfield 7, 3) := by decide +kernel
theorem dX6_way_27 : decode cX6_way 27 = .ok (.bipush 8, 2) := by decide +kernel
theorem dX6_way_29 : decode cX6_way 29 = .ok (.iload_n 1, 1) := by decide +kernel
theorem dX6_way_30 : decode cX6_way 30 = .ok (.imul, 1) := by decide +kernel
theorem dX6_way_31 : decode cX6_way 31 = .ok (.iload_n 2, 1) := by decide +kernel
theorem dX6_way_32 : decode cX6_way 32 = .ok (.iadd, 1) := by decide +kernel
theorem dX6_way_33 : decode cX6_way 33 = .ok (.iaload, 1) := by decide +kernel
theorem dX6_way_34 : decode cX6_way 34 = .ok (.goto 4, 3) := by decide +kernel
theorem dX6_way_37 : decode cX6_way 37 = .ok (.iconst (-1), 1) := by decide +kernel
theorem dX6_way_38 : decode cX6_way 38 = .ok (.ireturn, 1) := by decide +kernel
theorem dX6_leads_0 : decode cX6_leads 0 = .ok (.aload_n 0, 1) := by decide +kernel
theorem dX6_leads_1 : decode cX6_leads 1 = .ok (.iconst 0, 1) := by decide +kernel
theorem dX6_leads_2 : decode cX6_leads 2 = .ok (.putfield 77, 3) := by decide +kernel
theorem dX6_leads_5 : decode cX6_leads 5 = .ok (.aload_n 0, 1) := by decide +kernel
theorem dX6_leads_6 : decode cX6_leads 6 = .ok (.iload_n 1, 1) := by decide +kernel
theorem dX6_leads_7 : decode cX6_leads 7 = .ok (.invokevirtual 97, 3) := by decide +kernel
theorem dX6_leads_10 : decode cX6_leads 10 = .ok (.ifCond .eq 22, 3) := by decide +kernel
theorem dX6_leads_13 : decode cX6_leads 13 = .ok (.iload_n 2, 1) := by decide +kernel
theorem dX6_leads_14 : decode cX6_leads 14 = .ok (.iconst 0, 1) := by decide +kernel
theorem dX6_leads_15 : decode cX6_leads 15 = .ok (.bipush 7, 2) := by decide +kernel
theorem dX6_leads_17 : decode cX6_leads 17 = .ok (.invokestatic 84, 3) := by decide +kernel
theorem dX6_leads_20 : decode cX6_leads 20 = .ok (.ifCond .eq 12, 3) := by decide +kernel
theorem dX6_leads_23 : decode cX6_leads 23 = .ok (.aload_n 0, 1) := by decide +kernel
theorem dX6_leads_24 : decode cX6_leads 24 = .ok (.iload_n 1, 1) := by decide +kernel
theorem dX6_leads_25 : decode cX6_leads 25 = .ok (.iload_n 2, 1) := by decide +kernel
theorem dX6_leads_26 : decode cX6_leads 26 = .ok (.invokevirtual 150, 3) := by decide +kernel
theorem dX6_leads_29 : decode cX6_leads 29 = .ok (.goto 4, 3) := by decide +kernel
theorem dX6_leads_32 : decode cX6_leads 32 = .ok (.iconst (-1), 1) := by decide +kernel
theorem dX6_leads_33 : decode cX6_leads 33 = .ok (.ireturn, 1) := by decide +kernel
theorem dX6_state_0 : decode cX6_state 0 = .ok (.aload_n 0, 1) := by decide +kernel
theorem dX6_state_1 : decode cX6_state 1 = .ok (.iconst 0, 1) := by decide +kernel
theorem dX6_state_2 : decode cX6_state 2 = .ok (.putfield 77, 3) := by decide +kernel
theorem dX6_state_5 : decode cX6_state 5 = .ok (.aload_n 0, 1) := by decide +kernel
theorem dX6_state_6 : decode cX6_state 6 = .ok (.iload_n 1, 1) := by decide +kernel
theorem dX6_state_7 : decode cX6_state 7 = .ok (.invokevirtual 101, 3) := by decide +kernel
theorem dX6_state_10 : decode cX6_state 10 = .ok (.ifCond .ne 5, 3) := by decide +kernel
theorem dX6_state_13 : decode cX6_state 13 = .ok (.iconst (-1), 1) := by decide +kernel
theorem dX6_state_14 : decode cX6_state 14 = .ok (.ireturn, 1) := by decide +kernel
theorem dX6_state_15 : decode cX6_state 15 = .ok (.aload_n 0, 1) := by decide +kernel
theorem dX6_state_16 : decode cX6_state 16 = .ok (.getfield 25, 3) := by decide +kernel
theorem dX6_state_19 : decode cX6_state 19 = .ok (.iload_n 1, 1) := by decide +kernel
theorem dX6_state_20 : decode cX6_state 20 = .ok (.baload, 1) := by decide +kernel
theorem dX6_state_21 : decode cX6_state 21 = .ok (.ifCond .eq 7, 3) := by decide +kernel
theorem dX6_state_24 : decode cX6_state 24 = .ok (.iconst 1, 1) := by decide +kernel
theorem dX6_state_25 : decode cX6_state 25 = .ok (.goto 4, 3) := by decide +kernel
theorem dX6_state_28 : decode cX6_state 28 = .ok (.iconst 0, 1) := by decide +kernel
theorem dX6_state_29 : decode cX6_state 29 = .ok (.aload_n 0, 1) := by decide +kernel
theorem dX6_state_30 : decode cX6_state 30 = .ok (.getfield 29, 3) := by decide +kernel
theorem dX6_state_33 : decode cX6_state 33 = .ok (.iload_n 1, 1) := by decide +kernel
theorem dX6_state_34 : decode cX6_state 34 = .ok (.baload, 1) := by decide +kernel
theorem dX6_state_35 : decode cX6_state 35 = .ok (.ifCond .eq 7, 3) := by decide +kernel
theorem dX6_state_38 : decode cX6_state 38 = .ok (.iconst 2, 1) := by decide +kernel
theorem dX6_state_39 : decode cX6_state 39 = .ok (.goto 4, 3) := by decide +kernel
theorem dX6_state_42 : decode cX6_state 42 = .ok (.iconst 0, 1) := by decide +kernel
theorem dX6_state_43 : decode cX6_state 43 = .ok (.iadd, 1) := by decide +kernel
theorem dX6_state_44 : decode cX6_state 44 = .ok (.aload_n 0, 1) := by decide +kernel
theorem dX6_state_45 : decode cX6_state 45 = .ok (.getfield 22, 3) := by decide +kernel
theorem dX6_state_48 : decode cX6_state 48 = .ok (.iload_n 1, 1) := by decide +kernel
theorem dX6_state_49 : decode cX6_state 49 = .ok (.iaload, 1) := by decide +kernel
theorem dX6_state_50 : decode cX6_state 50 = .ok (.ifCond .lt 7, 3) := by decide +kernel
theorem dX6_state_53 : decode cX6_state 53 = .ok (.iconst 4, 1) := by decide +kernel
theorem dX6_state_54 : decode cX6_state 54 = .ok (.goto 4, 3) := by decide +kernel
theorem dX6_state_57 : decode cX6_state 57 = .ok (.iconst 0, 1) := by decide +kernel
theorem dX6_state_58 : decode cX6_state 58 = .ok (.iadd, 1) := by decide +kernel
theorem dX6_state_59 : decode cX6_state 59 = .ok (.aload_n 0, 1) := by decide +kernel
theorem dX6_state_60 : decode cX6_state 60 = .ok (.getfield 19, 3) := by decide +kernel
theorem dX6_state_63 : decode cX6_state 63 = .ok (.iload_n 1, 1) := by decide +kernel
theorem dX6_state_64 : decode cX6_state 64 = .ok (.iaload, 1) := by decide +kernel
theorem dX6_state_65 : decode cX6_state 65 = .ok (.ifCond .lt 8, 3) := by decide +kernel
theorem dX6_state_68 : decode cX6_state 68 = .ok (.bipush 8, 2) := by decide +kernel
theorem dX6_state_70 : decode cX6_state 70 = .ok (.goto 4, 3) := by decide +kernel
theorem dX6_state_73 : decode cX6_state 73 = .ok (.iconst 0, 1) := by decide +kernel
theorem dX6_state_74 : decode cX6_state 74 = .ok (.iadd, 1) := by decide +kernel
theorem dX6_state_75 : decode cX6_state 75 = .ok (.ireturn, 1) := by decide +kernel
theorem dX6_leastOf_0 : decode cX6_leastOf 0 = .ok (.iconst 0, 1) := by decide +kernel
theorem dX6_leastOf_1 : decode cX6_leastOf 1 = .ok (.istore_n 2, 1) := by decide +kernel
theorem dX6_leastOf_2 : decode cX6_leastOf 2 = .ok (.iload_n 2, 1) := by decide +kernel
theorem dX6_leastOf_3 : decode cX6_leastOf 3 = .ok (.bipush 20, 2) := by decide +kernel
theorem dX6_leastOf_5 : decode cX6_leastOf 5 = .ok (.if_icmp .ge 25, 3) := by decide +kernel
theorem dX6_leastOf_8 : decode cX6_leastOf 8 = .ok (.aload_n 0, 1) := by decide +kernel
theorem dX6_leastOf_9 : decode cX6_leastOf 9 = .ok (.getfield 71, 3) := by decide +kernel
theorem dX6_leastOf_12 : decode cX6_leastOf 12 = .ok (.bipush 20, 2) := by decide +kernel
theorem dX6_leastOf_14 : decode cX6_leastOf 14 = .ok (.iload_n 1, 1) := by decide +kernel
theorem dX6_leastOf_15 : decode cX6_leastOf 15 = .ok (.imul, 1) := by decide +kernel
theorem dX6_leastOf_16 : decode cX6_leastOf 16 = .ok (.iload_n 2, 1) := by decide +kernel
theorem dX6_leastOf_17 : decode cX6_leastOf 17 = .ok (.iadd, 1) := by decide +kernel
theorem dX6_leastOf_18 : decode cX6_leastOf 18 = .ok (.baload, 1) := by decide +kernel
theorem dX6_leastOf_19 : decode cX6_leastOf 19 = .ok (.ifCond .eq 5, 3) := by decide +kernel
theorem dX6_leastOf_22 : decode cX6_leastOf 22 = .ok (.iload_n 2, 1) := by decide +kernel
theorem dX6_leastOf_23 : decode cX6_leastOf 23 = .ok (.ireturn, 1) := by decide +kernel
theorem dX6_leastOf_24 : decode cX6_leastOf 24 = .ok (.iinc 2 1, 3) := by decide +kernel
theorem dX6_leastOf_27 : decode cX6_leastOf 27 = .ok (.goto (-25), 3) := by decide +kernel
theorem dX6_leastOf_30 : decode cX6_leastOf 30 = .ok (.bipush (-3), 2) := by decide +kernel
theorem dX6_leastOf_32 : decode cX6_leastOf 32 = .ok (.ireturn, 1) := by decide +kernel
theorem dX6_thingIs_0 : decode cX6_thingIs 0 = .ok (.aload_n 0, 1) := by decide +kernel
theorem dX6_thingIs_1 : decode cX6_thingIs 1 = .ok (.iconst 0, 1) := by decide +kernel
theorem dX6_thingIs_2 : decode cX6_thingIs 2 = .ok (.putfield 77, 3) := by decide +kernel
theorem dX6_thingIs_5 : decode cX6_thingIs 5 = .ok (.aload_n 0, 1) := by decide +kernel
theorem dX6_thingIs_6 : decode cX6_thingIs 6 = .ok (.iload_n 1, 1) := by decide +kernel
theorem dX6_thingIs_7 : decode cX6_thingIs 7 = .ok (.invokevirtual 111, 3) := by decide +kernel
theorem dX6_thingIs_10 : decode cX6_thingIs 10 = .ok (.ifCond .eq 12, 3) := by decide +kernel
theorem dX6_thingIs_13 : decode cX6_thingIs 13 = .ok (.iload_n 2, 1) := by decide +kernel
theorem dX6_thingIs_14 : decode cX6_thingIs 14 = .ok (.iconst 0, 1) := by decide +kernel
theorem dX6_thingIs_15 : decode cX6_thingIs 15 = .ok (.iconst 4, 1) := by decide +kernel
theorem dX6_thingIs_16 : decode cX6_thingIs 16 = .ok (.invokestatic 84, 3) := by decide +kernel
theorem dX6_thingIs_19 : decode cX6_thingIs 19 = .ok (.ifCond .ne 5, 3) := by decide +kernel
theorem dX6_thingIs_22 : decode cX6_thingIs 22 = .ok (.iconst (-1), 1) := by decide +kernel
theorem dX6_thingIs_23 : decode cX6_thingIs 23 = .ok (.ireturn, 1) := by decide +kernel
theorem dX6_thingIs_24 : decode cX6_thingIs 24 = .ok (.aload_n 0, 1) := by decide +kernel
theorem dX6_thingIs_25 : decode cX6_thingIs 25 = .ok (.getfield 41, 3) := by decide +kernel
theorem dX6_thingIs_28 : decode cX6_thingIs 28 = .ok (.iload_n 1, 1) := by decide +kernel
theorem dX6_thingIs_29 : decode cX6_thingIs 29 = .ok (.iaload, 1) := by decide +kernel
theorem dX6_thingIs_30 : decode cX6_thingIs 30 = .ok (.ifCond .lt 7, 3) := by decide +kernel
theorem dX6_thingIs_33 : decode cX6_thingIs 33 = .ok (.iconst 1, 1) := by decide +kernel
theorem dX6_thingIs_34 : decode cX6_thingIs 34 = .ok (.goto 4, 3) := by decide +kernel
theorem dX6_thingIs_37 : decode cX6_thingIs 37 = .ok (.iconst 0, 1) := by decide +kernel
theorem dX6_thingIs_38 : decode cX6_thingIs 38 = .ok (.istore_n 3, 1) := by decide +kernel
theorem dX6_thingIs_39 : decode cX6_thingIs 39 = .ok (.iload_n 2, 1) := by decide +kernel
theorem dX6_thingIs_40 : decode cX6_thingIs 40 = .ok (.ifCond .ne 29, 3) := by decide +kernel
theorem dX6_thingIs_43 : decode cX6_thingIs 43 = .ok (.iload_n 3, 1) := by decide +kernel
theorem dX6_thingIs_44 : decode cX6_thingIs 44 = .ok (.ifCond .eq 16, 3) := by decide +kernel
theorem dX6_thingIs_47 : decode cX6_thingIs 47 = .ok (.aload_n 0, 1) := by decide +kernel
theorem dX6_thingIs_48 : decode cX6_thingIs 48 = .ok (.aload_n 0, 1) := by decide +kernel
theorem dX6_thingIs_49 : decode cX6_thingIs 49 = .ok (.getfield 41, 3) := by decide +kernel
theorem dX6_thingIs_52 : decode cX6_thingIs 52 = .ok (.iload_n 1, 1) := by decide +kernel
theorem dX6_thingIs_53 : decode cX6_thingIs 53 = .ok (.iaload, 1) := by decide +kernel
theorem dX6_thingIs_54 : decode cX6_thingIs 54 = .ok (.invokevirtual 181, 3) := by decide +kernel
theorem dX6_thingIs_57 : decode cX6_thingIs 57 = .ok (.goto 77, 3) := by decide +kernel
theorem dX6_thingIs_60 : decode cX6_thingIs 60 = .ok (.aload_n 0, 1) := by decide +kernel
theorem dX6_thingIs_61 : decode cX6_thingIs 61 = .ok (.getfield 38, 3) := by decide +kernel
theorem dX6_thingIs_64 : decode cX6_thingIs 64 = .ok (.iload_n 1, 1) := by decide +kernel
theorem dX6_thingIs_65 : decode cX6_thingIs 65 = .ok (.iaload, 1) := by decide +kernel
theorem dX6_thingIs_66 : decode cX6_thingIs 66 = .ok (.goto 68, 3) := by decide +kernel
theorem dX6_thingIs_69 : decode cX6_thingIs 69 = .ok (.iload_n 2, 1) := by decide +kernel
theorem dX6_thingIs_70 : decode cX6_thingIs 70 = .ok (.iconst 1, 1) := by decide +kernel
theorem dX6_thingIs_71 : decode cX6_thingIs 71 = .ok (.if_icmp .ne 12, 3) := by decide +kernel
theorem dX6_thingIs_74 : decode cX6_thingIs 74 = .ok (.aload_n 0, 1) := by decide +kernel
theorem dX6_thingIs_75 : decode cX6_thingIs 75 = .ok (.getfield 32, 3) := by decide +kernel
theorem dX6_thingIs_78 : decode cX6_thingIs 78 = .ok (.iload_n 1, 1) := by decide +kernel
theorem dX6_thingIs_79 : decode cX6_thingIs 79 = .ok (.iaload, 1) := by decide +kernel
theorem dX6_thingIs_80 : decode cX6_thingIs 80 = .ok (.goto 54, 3) := by decide +kernel
theorem dX6_thingIs_83 : decode cX6_thingIs 83 = .ok (.iload_n 2, 1) := by decide +kernel
theorem dX6_thingIs_84 : decode cX6_thingIs 84 = .ok (.iconst 2, 1) := by decide +kernel
theorem dX6_thingIs_85 : decode cX6_thingIs 85 = .ok (.if_icmp .ne 12, 3) := by decide +kernel
theorem dX6_thingIs_88 : decode cX6_thingIs 88 = .ok (.aload_n 0, 1) := by decide +kernel
theorem dX6_thingIs_89 : decode cX6_thingIs 89 = .ok (.getfield 35, 3) := by decide +kernel
theorem dX6_thingIs_92 : decode cX6_thingIs 92 = .ok (.iload_n 1, 1) := by decide +kernel
theorem dX6_thingIs_93 : decode cX6_thingIs 93 = .ok (.iaload, 1) := by decide +kernel
theorem dX6_thingIs_94 : decode cX6_thingIs 94 = .ok (.goto 40, 3) := by decide +kernel
theorem dX6_thingIs_97 : decode cX6_thingIs 97 = .ok (.iload_n 2, 1) := by decide +kernel
theorem dX6_thingIs_98 : decode cX6_thingIs 98 = .ok (.iconst 3, 1) := by decide +kernel
theorem dX6_thingIs_99 : decode cX6_thingIs 99 = .ok (.if_icmp .ne 20, 3) := by decide +kernel
theorem dX6_thingIs_102 : decode cX6_thingIs 102 = .ok (.aload_n 0, 1) := by decide +kernel
theorem dX6_thingIs_103 : decode cX6_thingIs 103 = .ok (.getfield 44, 3) := by decide +kernel
theorem dX6_thingIs_106 : decode cX6_thingIs 106 = .ok (.iload_n 1, 1) := by decide +kernel
theorem dX6_thingIs_107 : decode cX6_thingIs 107 = .ok (.baload, 1) := by decide +kernel
theorem dX6_thingIs_108 : decode cX6_thingIs 108 = .ok (.ifCond .eq 7, 3) := by decide +kernel
theorem dX6_thingIs_111 : decode cX6_thingIs 111 = .ok (.iconst 1, 1) := by decide +kernel
theorem dX6_thingIs_112 : decode cX6_thingIs 112 = .ok (.goto 22, 3) := by decide +kernel
theorem dX6_thingIs_115 : decode cX6_thingIs 115 = .ok (.iconst 0, 1) := by decide +kernel
theorem dX6_thingIs_116 : decode cX6_thingIs 116 = .ok (.goto 18, 3) := by decide +kernel
theorem dX6_thingIs_119 : decode cX6_thingIs 119 = .ok (.iload_n 3, 1) := by decide +kernel
theorem dX6_thingIs_120 : decode cX6_thingIs 120 = .ok (.ifCond .eq 12, 3) := by decide +kernel
theorem dX6_thingIs_123 : decode cX6_thingIs 123 = .ok (.aload_n 0, 1) := by decide +kernel
theorem dX6_thingIs_124 : decode cX6_thingIs 124 = .ok (.getfield 41, 3) := by decide +kernel
theorem dX6_thingIs_127 : decode cX6_thingIs 127 = .ok (.iload_n 1, 1) := by decide +kernel
theorem dX6_thingIs_128 : decode cX6_thingIs 128 = .ok (.iaload, 1) := by decide +kernel
theorem dX6_thingIs_129 : decode cX6_thingIs 129 = .ok (.goto 5, 3) := by decide +kernel
theorem dX6_thingIs_132 : decode cX6_thingIs 132 = .ok (.bipush (-3), 2) := by decide +kernel
theorem dX6_thingIs_134 : decode cX6_thingIs 134 = .ok (.ireturn, 1) := by decide +kernel
theorem dX6_beingIs_0 : decode cX6_beingIs 0 = .ok (.aload_n 0, 1) := by decide +kernel
theorem dX6_beingIs_1 : decode cX6_beingIs 1 = .ok (.iconst 0, 1) := by decide +kernel
theorem dX6_beingIs_2 : decode cX6_beingIs 2 = .ok (.putfield 77, 3) := by decide +kernel
theorem dX6_beingIs_5 : decode cX6_beingIs 5 = .ok (.aload_n 0, 1) := by decide +kernel
theorem dX6_beingIs_6 : decode cX6_beingIs 6 = .ok (.iload_n 1, 1) := by decide +kernel
theorem dX6_beingIs_7 : decode cX6_beingIs 7 = .ok (.invokevirtual 123, 3) := by decide +kernel
theorem dX6_beingIs_10 : decode cX6_beingIs 10 = .ok (.ifCond .eq 12, 3) := by decide +kernel
theorem dX6_beingIs_13 : decode cX6_beingIs 13 = .ok (.iload_n 2, 1) := by decide +kernel
theorem dX6_beingIs_14 : decode cX6_beingIs 14 = .ok (.iconst 0, 1) := by decide +kernel
theorem dX6_beingIs_15 : decode cX6_beingIs 15 = .ok (.iconst 4, 1) := by decide +kernel
theorem dX6_beingIs_16 : decode cX6_beingIs 16 = .ok (.invokestatic 84, 3) := by decide +kernel
theorem dX6_beingIs_19 : decode cX6_beingIs 19 = .ok (.ifCond .ne 5, 3) := by decide +kernel
theorem dX6_beingIs_22 : decode cX6_beingIs 22 = .ok (.iconst (-1), 1) := by decide +kernel
theorem dX6_beingIs_23 : decode cX6_beingIs 23 = .ok (.ireturn, 1) := by decide +kernel
theorem dX6_beingIs_24 : decode cX6_beingIs 24 = .ok (.iload_n 2, 1) := by decide +kernel
theorem dX6_beingIs_25 : decode cX6_beingIs 25 = .ok (.ifCond .ne 12, 3) := by decide +kernel
theorem dX6_beingIs_28 : decode cX6_beingIs 28 = .ok (.aload_n 0, 1) := by decide +kernel
theorem dX6_beingIs_29 : decode cX6_beingIs 29 = .ok (.getfield 47, 3) := by decide +kernel
theorem dX6_beingIs_32 : decode cX6_beingIs 32 = .ok (.iload_n 1, 1) := by decide +kernel
theorem dX6_beingIs_33 : decode cX6_beingIs 33 = .ok (.iaload, 1) := by decide +kernel
theorem dX6_beingIs_34 : decode cX6_beingIs 34 = .ok (.goto 78, 3) := by decide +kernel
theorem dX6_beingIs_37 : decode cX6_beingIs 37 = .ok (.iload_n 2, 1) := by decide +kernel
theorem dX6_beingIs_38 : decode cX6_beingIs 38 = .ok (.iconst 1, 1) := by decide +kernel
theorem dX6_beingIs_39 : decode cX6_beingIs 39 = .ok (.if_icmp .ne 26, 3) := by decide +kernel
theorem dX6_beingIs_42 : decode cX6_beingIs 42 = .ok (.aload_n 0, 1) := by decide +kernel
theorem dX6_beingIs_43 : decode cX6_beingIs 43 = .ok (.getfield 50, 3) := by decide +kernel
theorem dX6_beingIs_46 : decode cX6_beingIs 46 = .ok (.iload_n 1, 1) := by decide +kernel
theorem dX6_beingIs_47 : decode cX6_beingIs 47 = .ok (.iaload, 1) := by decide +kernel
theorem dX6_beingIs_48 : decode cX6_beingIs 48 = .ok (.ifCond .ge 8, 3) := by decide +kernel
theorem dX6_beingIs_51 : decode cX6_beingIs 51 = .ok (.bipush (-3), 2) := by decide +kernel
theorem dX6_beingIs_53 : decode cX6_beingIs 53 = .ok (.goto 59, 3) := by decide +kernel
theorem dX6_beingIs_56 : decode cX6_beingIs 56 = .ok (.aload_n 0, 1) := by decide +kernel
theorem dX6_beingIs_57 : decode cX6_beingIs 57 = .ok (.getfield 50, 3) := by decide +kernel
theorem dX6_beingIs_60 : decode cX6_beingIs 60 = .ok (.iload_n 1, 1) := by decide +kernel
theorem dX6_beingIs_61 : decode cX6_beingIs 61 = .ok (.iaload, 1) := by decide +kernel
theorem dX6_beingIs_62 : decode cX6_beingIs 62 = .ok (.goto 50, 3) := by decide +kernel
theorem dX6_beingIs_65 : decode cX6_beingIs 65 = .ok (.iload_n 2, 1) := by decide +kernel
theorem dX6_beingIs_66 : decode cX6_beingIs 66 = .ok (.iconst 2, 1) := by decide +kernel
theorem dX6_beingIs_67 : decode cX6_beingIs 67 = .ok (.if_icmp .ne 26, 3) := by decide +kernel
theorem dX6_beingIs_70 : decode cX6_beingIs 70 = .ok (.aload_n 0, 1) := by decide +kernel
theorem dX6_beingIs_71 : decode cX6_beingIs 71 = .ok (.getfield 53, 3) := by decide +kernel
theorem dX6_beingIs_74 : decode cX6_beingIs 74 = .ok (.iload_n 1, 1) := by decide +kernel
theorem dX6_beingIs_75 : decode cX6_beingIs 75 = .ok (.iaload, 1) := by decide +kernel
theorem dX6_beingIs_76 : decode cX6_beingIs 76 = .ok (.ifCond .ge 8, 3) := by decide +kernel
theorem dX6_beingIs_79 : decode cX6_beingIs 79 = .ok (.bipush (-3), 2) := by decide +kernel
theorem dX6_beingIs_81 : decode cX6_beingIs 81 = .ok (.goto 31, 3) := by decide +kernel
theorem dX6_beingIs_84 : decode cX6_beingIs 84 = .ok (.aload_n 0, 1) := by decide +kernel
theorem dX6_beingIs_85 : decode cX6_beingIs 85 = .ok (.getfield 53, 3) := by decide +kernel
theorem dX6_beingIs_88 : decode cX6_beingIs 88 = .ok (.iload_n 1, 1) := by decide +kernel
theorem dX6_beingIs_89 : decode cX6_beingIs 89 = .ok (.iaload, 1) := by decide +kernel
theorem dX6_beingIs_90 : decode cX6_beingIs 90 = .ok (.goto 22, 3) := by decide +kernel
theorem dX6_beingIs_93 : decode cX6_beingIs 93 = .ok (.iload_n 2, 1) := by decide +kernel
theorem dX6_beingIs_94 : decode cX6_beingIs 94 = .ok (.iconst 3, 1) := by decide +kernel
theorem dX6_beingIs_95 : decode cX6_beingIs 95 = .ok (.if_icmp .ne 11, 3) := by decide +kernel
theorem dX6_beingIs_98 : decode cX6_beingIs 98 = .ok (.aload_n 0, 1) := by decide +kernel
theorem dX6_beingIs_99 : decode cX6_beingIs 99 = .ok (.iload_n 1, 1) := by decide +kernel
theorem dX6_beingIs_100 : decode cX6_beingIs 100 = .ok (.invokevirtual 139, 3) := by decide +kernel
theorem dX6_beingIs_103 : decode cX6_beingIs 103 = .ok (.goto 9, 3) := by decide +kernel
theorem dX6_beingIs_106 : decode cX6_beingIs 106 = .ok (.aload_n 0, 1) := by decide +kernel
theorem dX6_beingIs_107 : decode cX6_beingIs 107 = .ok (.getfield 59, 3) := by decide +kernel
theorem dX6_beingIs_110 : decode cX6_beingIs 110 = .ok (.iload_n 1, 1) := by decide +kernel
theorem dX6_beingIs_111 : decode cX6_beingIs 111 = .ok (.iaload, 1) := by decide +kernel
theorem dX6_beingIs_112 : decode cX6_beingIs 112 = .ok (.ireturn, 1) := by decide +kernel
theorem dX6_news_0 : decode cX6_news 0 = .ok (.aload_n 0, 1) := by decide +kernel
theorem dX6_news_1 : decode cX6_news 1 = .ok (.iconst 0, 1) := by decide +kernel
theorem dX6_news_2 : decode cX6_news 2 = .ok (.putfield 77, 3) := by decide +kernel
theorem dX6_news_5 : decode cX6_news 5 = .ok (.aload_n 0, 1) := by decide +kernel
theorem dX6_news_6 : decode cX6_news 6 = .ok (.iload_n 1, 1) := by decide +kernel
theorem dX6_news_7 : decode cX6_news 7 = .ok (.invokevirtual 123, 3) := by decide +kernel
theorem dX6_news_10 : decode cX6_news 10 = .ok (.ifCond .eq 33, 3) := by decide +kernel
theorem dX6_news_13 : decode cX6_news 13 = .ok (.iload_n 2, 1) := by decide +kernel
theorem dX6_news_14 : decode cX6_news 14 = .ok (.iconst 0, 1) := by decide +kernel
theorem dX6_news_15 : decode cX6_news 15 = .ok (.aload_n 0, 1) := by decide +kernel
theorem dX6_news_16 : decode cX6_news 16 = .ok (.getfield 59, 3) := by decide +kernel
theorem dX6_news_19 : decode cX6_news 19 = .ok (.iload_n 1, 1) := by decide +kernel
theorem dX6_news_20 : decode cX6_news 20 = .ok (.iaload, 1) := by decide +kernel
theorem dX6_news_21 : decode cX6_news 21 = .ok (.iconst 1, 1) := by decide +kernel
theorem dX6_news_22 : decode cX6_news 22 = .ok (.isub, 1) := by decide +kernel
theorem dX6_news_23 : decode cX6_news 23 = .ok (.invokestatic 84, 3) := by decide +kernel
theorem dX6_news_26 : decode cX6_news 26 = .ok (.ifCond .eq 17, 3) := by decide +kernel
theorem dX6_news_29 : decode cX6_news 29 = .ok (.aload_n 0, 1) := by decide +kernel
theorem dX6_news_30 : decode cX6_news 30 = .ok (.getfield 56, 3) := by decide +kernel
theorem dX6_news_33 : decode cX6_news 33 = .ok (.bipush 8, 2) := by decide +kernel
theorem dX6_news_35 : decode cX6_news 35 = .ok (.iload_n 1, 1) := by decide +kernel
theorem dX6_news_36 : decode cX6_news 36 = .ok (.imul, 1) := by decide +kernel
theorem dX6_news_37 : decode cX6_news 37 = .ok (.iload_n 2, 1) := by decide +kernel
theorem dX6_news_38 : decode cX6_news 38 = .ok (.iadd, 1) := by decide +kernel
theorem dX6_news_39 : decode cX6_news 39 = .ok (.iaload, 1) := by decide +kernel
theorem dX6_news_40 : decode cX6_news 40 = .ok (.goto 4, 3) := by decide +kernel
theorem dX6_news_43 : decode cX6_news 43 = .ok (.iconst (-1), 1) := by decide +kernel
theorem dX6_news_44 : decode cX6_news 44 = .ok (.ireturn, 1) := by decide +kernel
theorem dX6_count_0 : decode cX6_count 0 = .ok (.aload_n 0, 1) := by decide +kernel
theorem dX6_count_1 : decode cX6_count 1 = .ok (.iconst 0, 1) := by decide +kernel
theorem dX6_count_2 : decode cX6_count 2 = .ok (.putfield 77, 3) := by decide +kernel
theorem dX6_count_5 : decode cX6_count 5 = .ok (.iload_n 1, 1) := by decide +kernel
theorem dX6_count_6 : decode cX6_count 6 = .ok (.iconst 0, 1) := by decide +kernel
theorem dX6_count_7 : decode cX6_count 7 = .ok (.iconst 5, 1) := by decide +kernel
theorem dX6_count_8 : decode cX6_count 8 = .ok (.invokestatic 84, 3) := by decide +kernel
theorem dX6_count_11 : decode cX6_count 11 = .ok (.ifCond .ne 5, 3) := by decide +kernel
theorem dX6_count_14 : decode cX6_count 14 = .ok (.iconst (-1), 1) := by decide +kernel
theorem dX6_count_15 : decode cX6_count 15 = .ok (.ireturn, 1) := by decide +kernel
theorem dX6_count_16 : decode cX6_count 16 = .ok (.iconst 0, 1) := by decide +kernel
theorem dX6_count_17 : decode cX6_count 17 = .ok (.istore_n 2, 1) := by decide +kernel
theorem dX6_count_18 : decode cX6_count 18 = .ok (.iconst 0, 1) := by decide +kernel
theorem dX6_count_19 : decode cX6_count 19 = .ok (.istore_n 3, 1) := by decide +kernel
theorem dX6_count_20 : decode cX6_count 20 = .ok (.iload_n 3, 1) := by decide +kernel
theorem dX6_count_21 : decode cX6_count 21 = .ok (.bipush 8, 2) := by decide +kernel
theorem dX6_count_23 : decode cX6_count 23 = .ok (.aload_n 0, 1) := by decide +kernel
theorem dX6_count_24 : decode cX6_count 24 = .ok (.getfield 81, 3) := by decide +kernel
theorem dX6_count_27 : decode cX6_count 27 = .ok (.imul, 1) := by decide +kernel
theorem dX6_count_28 : decode cX6_count 28 = .ok (.if_icmp .ge 55, 3) := by decide +kernel
theorem dX6_count_31 : decode cX6_count 31 = .ok (.iload_n 1, 1) := by decide +kernel
theorem dX6_count_32 : decode cX6_count 32 = .ok (.iconst 3, 1) := by decide +kernel
theorem dX6_count_33 : decode cX6_count 33 = .ok (.if_icmp .le 50, 3) := by decide +kernel
theorem dX6_count_36 : decode cX6_count 36 = .ok (.iload_n 2, 1) := by decide +kernel
theorem dX6_count_37 : decode cX6_count 37 = .ok (.iload_n 1, 1) := by decide +kernel
theorem dX6_count_38 : decode cX6_count 38 = .ok (.iconst 4, 1) := by decide +kernel
theorem dX6_count_39 : decode cX6_count 39 = .ok (.if_icmp .ne 16, 3) := by decide +kernel
theorem dX6_count_42 : decode cX6_count 42 = .ok (.aload_n 0, 1) := by decide +kernel
theorem dX6_count_43 : decode cX6_count 43 = .ok (.getfield 7, 3) := by decide +kernel
theorem dX6_count_46 : decode cX6_count 46 = .ok (.iload_n 3, 1) := by decide +kernel
theorem dX6_count_47 : decode cX6_count 47 = .ok (.iaload, 1) := by decide +kernel
theorem dX6_count_48 : decode cX6_count 48 = .ok (.iconst (-1), 1) := by decide +kernel
theorem dX6_count_49 : decode cX6_count 49 = .ok (.if_icmp .eq 25, 3) := by decide +kernel
theorem dX6_count_52 : decode cX6_count 52 = .ok (.goto 18, 3) := by decide +kernel
theorem dX6_count_55 : decode cX6_count 55 = .ok (.aload_n 0, 1) := by decide +kernel
theorem dX6_count_56 : decode cX6_count 56 = .ok (.iload_n 3, 1) := by decide +kernel
theorem dX6_count_57 : decode cX6_count 57 = .ok (.bipush 8, 2) := by decide +kernel
theorem dX6_count_59 : decode cX6_count 59 = .ok (.idiv, 1) := by decide +kernel
theorem dX6_count_60 : decode cX6_count 60 = .ok (.iload_n 3, 1) := by decide +kernel
theorem dX6_count_61 : decode cX6_count 61 = .ok (.bipush 8, 2) := by decide +kernel
theorem dX6_count_63 : decode cX6_count 63 = .ok (.irem, 1) := by decide +kernel
theorem dX6_count_64 : decode cX6_count 64 = .ok (.invokevirtual 150, 3) := by decide +kernel
theorem dX6_count_67 : decode cX6_count 67 = .ok (.ifCond .lt 7, 3) := by decide +kernel
theorem dX6_count_70 : decode cX6_count 70 = .ok (.iconst 1, 1) := by decide +kernel
theorem dX6_count_71 : decode cX6_count 71 = .ok (.goto 4, 3) := by decide +kernel
theorem dX6_count_74 : decode cX6_count 74 = .ok (.iconst 0, 1) := by decide +kernel
theorem dX6_count_75 : decode cX6_count 75 = .ok (.iadd, 1) := by decide +kernel
theorem dX6_count_76 : decode cX6_count 76 = .ok (.istore_n 2, 1) := by decide +kernel
theorem dX6_count_77 : decode cX6_count 77 = .ok (.iinc 3 1, 3) := by decide +kernel
theorem dX6_count_80 : decode cX6_count 80 = .ok (.goto (-60), 3) := by decide +kernel
theorem dX6_count_83 : decode cX6_count 83 = .ok (.iload_n 1, 1) := by decide +kernel
theorem dX6_count_84 : decode cX6_count 84 = .ok (.ifCond .ne 10, 3) := by decide +kernel
theorem dX6_count_87 : decode cX6_count 87 = .ok (.aload_n 0, 1) := by decide +kernel
theorem dX6_count_88 : decode cX6_count 88 = .ok (.getfield 81, 3) := by decide +kernel
theorem dX6_count_91 : decode cX6_count 91 = .ok (.goto 40, 3) := by decide +kernel
theorem dX6_count_94 : decode cX6_count 94 = .ok (.iload_n 1, 1) := by decide +kernel
theorem dX6_count_95 : decode cX6_count 95 = .ok (.iconst 1, 1) := by decide +kernel
theorem dX6_count_96 : decode cX6_count 96 = .ok (.if_icmp .ne 10, 3) := by decide +kernel
theorem dX6_count_99 : decode cX6_count 99 = .ok (.aload_n 0, 1) := by decide +kernel
theorem dX6_count_100 : decode cX6_count 100 = .ok (.getfield 88, 3) := by decide +kernel
theorem dX6_count_103 : decode cX6_count 103 = .ok (.goto 28, 3) := by decide +kernel
theorem dX6_count_106 : decode cX6_count 106 = .ok (.iload_n 1, 1) := by decide +kernel
theorem dX6_count_107 : decode cX6_count 107 = .ok (.iconst 2, 1) := by decide +kernel
theorem dX6_count_108 : decode cX6_count 108 = .ok (.if_icmp .ne 10, 3) := by decide +kernel
theorem dX6_count_111 : decode cX6_count 111 = .ok (.aload_n 0, 1) := by decide +kernel
theorem dX6_count_112 : decode cX6_count 112 = .ok (.getfield 91, 3) := by decide +kernel
theorem dX6_count_115 : decode cX6_count 115 = .ok (.goto 16, 3) := by decide +kernel
theorem dX6_count_118 : decode cX6_count 118 = .ok (.iload_n 1, 1) := by decide +kernel
theorem dX6_count_119 : decode cX6_count 119 = .ok (.iconst 3, 1) := by decide +kernel
theorem dX6_count_120 : decode cX6_count 120 = .ok (.if_icmp .ne 10, 3) := by decide +kernel
theorem dX6_count_123 : decode cX6_count 123 = .ok (.aload_n 0, 1) := by decide +kernel
theorem dX6_count_124 : decode cX6_count 124 = .ok (.getfield 94, 3) := by decide +kernel
theorem dX6_count_127 : decode cX6_count 127 = .ok (.goto 4, 3) := by decide +kernel
theorem dX6_count_130 : decode cX6_count 130 = .ok (.iload_n 2, 1) := by decide +kernel
theorem dX6_count_131 : decode cX6_count 131 = .ok (.ireturn, 1) := by decide +kernel
theorem dJ6_bitCount_0f7a4_0 : decode cJ6_bitCount_0f7a4 0 = .ok (.iload_n 0, 1) := by decide +kernel
theorem dJ6_bitCount_0f7a4_1 : decode cJ6_bitCount_0f7a4 1 = .ok (.iload_n 0, 1) := by decide +kernel
theorem dJ6_bitCount_0f7a4_2 : decode cJ6_bitCount_0f7a4 2 = .ok (.iconst 1, 1) := by decide +kernel
theorem dJ6_bitCount_0f7a4_3 : decode cJ6_bitCount_0f7a4 3 = .ok (.iushr, 1) := by decide +kernel
theorem dJ6_bitCount_0f7a4_4 : decode cJ6_bitCount_0f7a4 4 = .ok (.ldc_w 265, 3) := by decide +kernel
theorem dJ6_bitCount_0f7a4_7 : decode cJ6_bitCount_0f7a4 7 = .ok (.iand, 1) := by decide +kernel
theorem dJ6_bitCount_0f7a4_8 : decode cJ6_bitCount_0f7a4 8 = .ok (.isub, 1) := by decide +kernel
theorem dJ6_bitCount_0f7a4_9 : decode cJ6_bitCount_0f7a4 9 = .ok (.istore_n 0, 1) := by decide +kernel
theorem dJ6_bitCount_0f7a4_10 : decode cJ6_bitCount_0f7a4 10 = .ok (.iload_n 0, 1) := by decide +kernel
theorem dJ6_bitCount_0f7a4_11 : decode cJ6_bitCount_0f7a4 11 = .ok (.ldc_w 266, 3) := by decide +kernel
theorem dJ6_bitCount_0f7a4_14 : decode cJ6_bitCount_0f7a4 14 = .ok (.iand, 1) := by decide +kernel
theorem dJ6_bitCount_0f7a4_15 : decode cJ6_bitCount_0f7a4 15 = .ok (.iload_n 0, 1) := by decide +kernel
theorem dJ6_bitCount_0f7a4_16 : decode cJ6_bitCount_0f7a4 16 = .ok (.iconst 2, 1) := by decide +kernel
theorem dJ6_bitCount_0f7a4_17 : decode cJ6_bitCount_0f7a4 17 = .ok (.iushr, 1) := by decide +kernel
theorem dJ6_bitCount_0f7a4_18 : decode cJ6_bitCount_0f7a4 18 = .ok (.ldc_w 266, 3) := by decide +kernel
theorem dJ6_bitCount_0f7a4_21 : decode cJ6_bitCount_0f7a4 21 = .ok (.iand, 1) := by decide +kernel
theorem dJ6_bitCount_0f7a4_22 : decode cJ6_bitCount_0f7a4 22 = .ok (.iadd, 1) := by decide +kernel
theorem dJ6_bitCount_0f7a4_23 : decode cJ6_bitCount_0f7a4 23 = .ok (.istore_n 0, 1) := by decide +kernel
theorem dJ6_bitCount_0f7a4_24 : decode cJ6_bitCount_0f7a4 24 = .ok (.iload_n 0, 1) := by decide +kernel
theorem dJ6_bitCount_0f7a4_25 : decode cJ6_bitCount_0f7a4 25 = .ok (.iload_n 0, 1) := by decide +kernel
theorem dJ6_bitCount_0f7a4_26 : decode cJ6_bitCount_0f7a4 26 = .ok (.iconst 4, 1) := by decide +kernel
theorem dJ6_bitCount_0f7a4_27 : decode cJ6_bitCount_0f7a4 27 = .ok (.iushr, 1) := by decide +kernel
theorem dJ6_bitCount_0f7a4_28 : decode cJ6_bitCount_0f7a4 28 = .ok (.iadd, 1) := by decide +kernel
theorem dJ6_bitCount_0f7a4_29 : decode cJ6_bitCount_0f7a4 29 = .ok (.ldc_w 267, 3) := by decide +kernel
theorem dJ6_bitCount_0f7a4_32 : decode cJ6_bitCount_0f7a4 32 = .ok (.iand, 1) := by decide +kernel
theorem dJ6_bitCount_0f7a4_33 : decode cJ6_bitCount_0f7a4 33 = .ok (.istore_n 0, 1) := by decide +kernel
theorem dJ6_bitCount_0f7a4_34 : decode cJ6_bitCount_0f7a4 34 = .ok (.iload_n 0, 1) := by decide +kernel
theorem dJ6_bitCount_0f7a4_35 : decode cJ6_bitCount_0f7a4 35 = .ok (.iload_n 0, 1) := by decide +kernel
theorem dJ6_bitCount_0f7a4_36 : decode cJ6_bitCount_0f7a4 36 = .ok (.bipush 8, 2) := by decide +kernel
theorem dJ6_bitCount_0f7a4_38 : decode cJ6_bitCount_0f7a4 38 = .ok (.iushr, 1) := by decide +kernel
theorem dJ6_bitCount_0f7a4_39 : decode cJ6_bitCount_0f7a4 39 = .ok (.iadd, 1) := by decide +kernel
theorem dJ6_bitCount_0f7a4_40 : decode cJ6_bitCount_0f7a4 40 = .ok (.istore_n 0, 1) := by decide +kernel
theorem dJ6_bitCount_0f7a4_41 : decode cJ6_bitCount_0f7a4 41 = .ok (.iload_n 0, 1) := by decide +kernel
theorem dJ6_bitCount_0f7a4_42 : decode cJ6_bitCount_0f7a4 42 = .ok (.iload_n 0, 1) := by decide +kernel
theorem dJ6_bitCount_0f7a4_43 : decode cJ6_bitCount_0f7a4 43 = .ok (.bipush 16, 2) := by decide +kernel
theorem dJ6_bitCount_0f7a4_45 : decode cJ6_bitCount_0f7a4 45 = .ok (.iushr, 1) := by decide +kernel
theorem dJ6_bitCount_0f7a4_46 : decode cJ6_bitCount_0f7a4 46 = .ok (.iadd, 1) := by decide +kernel
theorem dJ6_bitCount_0f7a4_47 : decode cJ6_bitCount_0f7a4 47 = .ok (.istore_n 0, 1) := by decide +kernel
theorem dJ6_bitCount_0f7a4_48 : decode cJ6_bitCount_0f7a4 48 = .ok (.iload_n 0, 1) := by decide +kernel
theorem dJ6_bitCount_0f7a4_49 : decode cJ6_bitCount_0f7a4 49 = .ok (.bipush 63, 2) := by decide +kernel
theorem dJ6_bitCount_0f7a4_51 : decode cJ6_bitCount_0f7a4 51 = .ok (.iand, 1) := by decide +kernel
theorem dJ6_bitCount_0f7a4_52 : decode cJ6_bitCount_0f7a4 52 = .ok (.ireturn, 1) := by decide +kernel
theorem dJ7_fill_53178_0 : decode cJ7_fill_53178 0 = .ok (.iconst 0, 1) := by decide +kernel
theorem dJ7_fill_53178_1 : decode cJ7_fill_53178 1 = .ok (.istore_n 2, 1) := by decide +kernel
theorem dJ7_fill_53178_2 : decode cJ7_fill_53178 2 = .ok (.aload_n 0, 1) := by decide +kernel
theorem dJ7_fill_53178_3 : decode cJ7_fill_53178 3 = .ok (.arraylength, 1) := by decide +kernel
theorem dJ7_fill_53178_4 : decode cJ7_fill_53178 4 = .ok (.istore_n 3, 1) := by decide +kernel
theorem dJ7_fill_53178_5 : decode cJ7_fill_53178 5 = .ok (.iload_n 2, 1) := by decide +kernel
theorem dJ7_fill_53178_6 : decode cJ7_fill_53178 6 = .ok (.iload_n 3, 1) := by decide +kernel
theorem dJ7_fill_53178_7 : decode cJ7_fill_53178 7 = .ok (.if_icmp .ge 13, 3) := by decide +kernel
theorem dJ7_fill_53178_10 : decode cJ7_fill_53178 10 = .ok (.aload_n 0, 1) := by decide +kernel
theorem dJ7_fill_53178_11 : decode cJ7_fill_53178 11 = .ok (.iload_n 2, 1) := by decide +kernel
theorem dJ7_fill_53178_12 : decode cJ7_fill_53178 12 = .ok (.iload_n 1, 1) := by decide +kernel
theorem dJ7_fill_53178_13 : decode cJ7_fill_53178 13 = .ok (.iastore, 1) := by decide +kernel
theorem dJ7_fill_53178_14 : decode cJ7_fill_53178 14 = .ok (.iinc 2 1, 3) := by decide +kernel
theorem dJ7_fill_53178_17 : decode cJ7_fill_53178 17 = .ok (.goto (-12), 3) := by decide +kernel
theorem dJ7_fill_53178_20 : decode cJ7_fill_53178 20 = .ok (.return_, 1) := by decide +kernel
theorem dL_law_0 : decode cL_law 0 = .ok (.new 7, 3) := by decide +kernel
theorem dL_law_3 : decode cL_law 3 = .ok (.dup, 1) := by decide +kernel
theorem dL_law_4 : decode cL_law 4 = .ok (.invokespecial 9, 3) := by decide +kernel
theorem dL_law_7 : decode cL_law 7 = .ok (.astore_n 1, 1) := by decide +kernel
theorem dL_law_8 : decode cL_law 8 = .ok (.new 10, 3) := by decide +kernel
theorem dL_law_11 : decode cL_law 11 = .ok (.dup, 1) := by decide +kernel
theorem dL_law_12 : decode cL_law 12 = .ok (.invokespecial 12, 3) := by decide +kernel
theorem dL_law_15 : decode cL_law 15 = .ok (.astore_n 2, 1) := by decide +kernel
theorem dL_law_16 : decode cL_law 16 = .ok (.iconst 0, 1) := by decide +kernel
theorem dL_law_17 : decode cL_law 17 = .ok (.istore_n 3, 1) := by decide +kernel
theorem dL_law_18 : decode cL_law 18 = .ok (.iload_n 3, 1) := by decide +kernel
theorem dL_law_19 : decode cL_law 19 = .ok (.aload_n 0, 1) := by decide +kernel
theorem dL_law_20 : decode cL_law 20 = .ok (.arraylength, 1) := by decide +kernel
theorem dL_law_21 : decode cL_law 21 = .ok (.iconst 4, 1) := by decide +kernel
theorem dL_law_22 : decode cL_law 22 = .ok (.isub, 1) := by decide +kernel
theorem dL_law_23 : decode cL_law 23 = .ok (.if_icmp .gt 1055, 3) := by decide +kernel
theorem dL_law_26 : decode cL_law 26 = .ok (.aload_n 0, 1) := by decide +kernel
theorem dL_law_27 : decode cL_law 27 = .ok (.iload_n 3, 1) := by decide +kernel
theorem dL_law_28 : decode cL_law 28 = .ok (.iaload, 1) := by decide +kernel
theorem dL_law_29 : decode cL_law 29 = .ok (.bipush 31, 2) := by decide +kernel
theorem dL_law_31 : decode cL_law 31 = .ok (.iand, 1) := by decide +kernel
theorem dL_law_32 : decode cL_law 32 = .ok (.tableswitch 1040 0 25 #[120, 133, 166, 209, 252, 285, 344, 403, 446, 479, 502, 545, 588, 611, 644, 687, 710, 743, 786, 819, 852, 875, 908, 941, 974, 1017], 120) := by decide +kernel
theorem dL_law_152 : decode cL_law 152 = .ok (.aload_n 1, 1) := by decide +kernel
theorem dL_law_153 : decode cL_law 153 = .ok (.invokevirtual 13, 3) := by decide +kernel
theorem dL_law_156 : decode cL_law 156 = .ok (.aload_n 2, 1) := by decide +kernel
theorem dL_law_157 : decode cL_law 157 = .ok (.invokevirtual 17, 3) := by decide +kernel
theorem dL_law_160 : decode cL_law 160 = .ok (.if_icmp .eq 912, 3) := by decide +kernel
theorem dL_law_163 : decode cL_law 163 = .ok (.iconst 0, 1) := by decide +kernel
theorem dL_law_164 : decode cL_law 164 = .ok (.ireturn, 1) := by decide +kernel
theorem dL_law_165 : decode cL_law 165 = .ok (.aload_n 1, 1) := by decide +kernel
theorem dL_law_166 : decode cL_law 166 = .ok (.aload_n 0, 1) := by decide +kernel
theorem dL_law_167 : decode cL_law 167 = .ok (.iload_n 3, 1) := by decide +kernel
theorem dL_law_168 : decode cL_law 168 = .ok (.iconst 1, 1) := by decide +kernel
theorem dL_law_169 : decode cL_law 169 = .ok (.iadd, 1) := by decide +kernel
theorem dL_law_170 : decode cL_law 170 = .ok (.iaload, 1) := by decide +kernel
theorem dL_law_171 : decode cL_law 171 = .ok (.aload_n 0, 1) := by decide +kernel
theorem dL_law_172 : decode cL_law 172 = .ok (.iload_n 3, 1) := by decide +kernel
theorem dL_law_173 : decode cL_law 173 = .ok (.iconst 2, 1) := by decide +kernel
theorem dL_law_174 : decode cL_law 174 = .ok (.iadd, 1) := by decide +kernel
theorem dL_law_175 : decode cL_law 175 = .ok (.iaload, 1) := by decide +kernel
theorem dL_law_176 : decode cL_law 176 = .ok (.invokevirtual 18, 3) := by decide +kernel
theorem dL_law_179 : decode cL_law 179 = .ok (.aload_n 2, 1) := by decide +kernel
theorem dL_law_180 : decode cL_law 180 = .ok (.aload_n 0, 1) := by decide +kernel
theorem dL_law_181 : decode cL_law 181 = .ok (.iload_n 3, 1) := by decide +kernel
