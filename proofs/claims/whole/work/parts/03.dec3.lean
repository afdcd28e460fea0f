theorem dX5_setShut_21 : decode cX5_setShut 21 = .ok (.ireturn, 1) := by decide +kernel
theorem dX5_setShut_22 : decode cX5_setShut 22 = .ok (.aload_n 0, 1) := by decide +kernel
theorem dX5_setShut_23 : decode cX5_setShut 23 = .ok (.iload_n 1, 1) := by decide +kernel
theorem dX5_setShut_24 : decode cX5_setShut 24 = .ok (.putfield 173, 3) := by decide +kernel
theorem dX5_setShut_27 : decode cX5_setShut 27 = .ok (.iconst 1, 1) := by decide +kernel
theorem dX5_setShut_28 : decode cX5_setShut 28 = .ok (.ireturn, 1) := by decide +kernel
theorem dX5_goBy_0 : decode cX5_goBy 0 = .ok (.aload_n 1, 1) := by decide +kernel
theorem dX5_goBy_1 : decode cX5_goBy 1 = .ok (.getfield 170, 3) := by decide +kernel
theorem dX5_goBy_4 : decode cX5_goBy 4 = .ok (.astore_n 3, 1) := by decide +kernel
theorem dX5_goBy_5 : decode cX5_goBy 5 = .ok (.aload_n 3, 1) := by decide +kernel
theorem dX5_goBy_6 : decode cX5_goBy 6 = .ok (.ifnull 26, 3) := by decide +kernel
theorem dX5_goBy_9 : decode cX5_goBy 9 = .ok (.aload_n 3, 1) := by decide +kernel
theorem dX5_goBy_10 : decode cX5_goBy 10 = .ok (.getfield 109, 3) := by decide +kernel
theorem dX5_goBy_13 : decode cX5_goBy 13 = .ok (.iconst 3, 1) := by decide +kernel
theorem dX5_goBy_14 : decode cX5_goBy 14 = .ok (.if_icmp .ne 18, 3) := by decide +kernel
theorem dX5_goBy_17 : decode cX5_goBy 17 = .ok (.aload_n 3, 1) := by decide +kernel
theorem dX5_goBy_18 : decode cX5_goBy 18 = .ok (.getfield 173, 3) := by decide +kernel
theorem dX5_goBy_21 : decode cX5_goBy 21 = .ok (.ifCond .eq 8, 3) := by decide +kernel
theorem dX5_goBy_24 : decode cX5_goBy 24 = .ok (.bipush (-21), 2) := by decide +kernel
theorem dX5_goBy_26 : decode cX5_goBy 26 = .ok (.goto 5, 3) := by decide +kernel
theorem dX5_goBy_29 : decode cX5_goBy 29 = .ok (.bipush (-24), 2) := by decide +kernel
theorem dX5_goBy_31 : decode cX5_goBy 31 = .ok (.ireturn, 1) := by decide +kernel
theorem dX5_goBy_32 : decode cX5_goBy 32 = .ok (.aload_n 0, 1) := by decide +kernel
theorem dX5_goBy_33 : decode cX5_goBy 33 = .ok (.aload_n 1, 1) := by decide +kernel
theorem dX5_goBy_34 : decode cX5_goBy 34 = .ok (.aload_n 3, 1) := by decide +kernel
theorem dX5_goBy_35 : decode cX5_goBy 35 = .ok (.iload_n 2, 1) := by decide +kernel
theorem dX5_goBy_36 : decode cX5_goBy 36 = .ok (.invokevirtual 183, 3) := by decide +kernel
theorem dX5_goBy_39 : decode cX5_goBy 39 = .ok (.ireturn, 1) := by decide +kernel
theorem dX5_directionBack_0 : decode cX5_directionBack 0 = .ok (.aload_n 1, 1) := by decide +kernel
theorem dX5_directionBack_1 : decode cX5_directionBack 1 = .ok (.getfield 226, 3) := by decide +kernel
theorem dX5_directionBack_4 : decode cX5_directionBack 4 = .ok (.iconst (-1), 1) := by decide +kernel
theorem dX5_directionBack_5 : decode cX5_directionBack 5 = .ok (.if_icmp .ne 5, 3) := by decide +kernel
theorem dX5_directionBack_8 : decode cX5_directionBack 8 = .ok (.iconst (-1), 1) := by decide +kernel
theorem dX5_directionBack_9 : decode cX5_directionBack 9 = .ok (.ireturn, 1) := by decide +kernel
theorem dX5_directionBack_10 : decode cX5_directionBack 10 = .ok (.iconst 0, 1) := by decide +kernel
theorem dX5_directionBack_11 : decode cX5_directionBack 11 = .ok (.istore_n 2, 1) := by decide +kernel
theorem dX5_directionBack_12 : decode cX5_directionBack 12 = .ok (.iload_n 2, 1) := by decide +kernel
theorem dX5_directionBack_13 : decode cX5_directionBack 13 = .ok (.bipush 8, 2) := by decide +kernel
theorem dX5_directionBack_15 : decode cX5_directionBack 15 = .ok (.if_icmp .ge 27, 3) := by decide +kernel
theorem dX5_directionBack_18 : decode cX5_directionBack 18 = .ok (.aload_n 0, 1) := by decide +kernel
theorem dX5_directionBack_19 : decode cX5_directionBack 19 = .ok (.aload_n 1, 1) := by decide +kernel
theorem dX5_directionBack_20 : decode cX5_directionBack 20 = .ok (.getfield 191, 3) := by decide +kernel
theorem dX5_directionBack_23 : decode cX5_directionBack 23 = .ok (.iload_n 2, 1) := by decide +kernel
theorem dX5_directionBack_24 : decode cX5_directionBack 24 = .ok (.invokevirtual 204, 3) := by decide +kernel
theorem dX5_directionBack_27 : decode cX5_directionBack 27 = .ok (.aload_n 1, 1) := by decide +kernel
theorem dX5_directionBack_28 : decode cX5_directionBack 28 = .ok (.getfield 226, 3) := by decide +kernel
theorem dX5_directionBack_31 : decode cX5_directionBack 31 = .ok (.if_icmp .ne 5, 3) := by decide +kernel
theorem dX5_directionBack_34 : decode cX5_directionBack 34 = .ok (.iload_n 2, 1) := by decide +kernel
theorem dX5_directionBack_35 : decode cX5_directionBack 35 = .ok (.ireturn, 1) := by decide +kernel
theorem dX5_directionBack_36 : decode cX5_directionBack 36 = .ok (.iinc 2 1, 3) := by decide +kernel
theorem dX5_directionBack_39 : decode cX5_directionBack 39 = .ok (.goto (-27), 3) := by decide +kernel
theorem dX5_directionBack_42 : decode cX5_directionBack 42 = .ok (.iconst (-1), 1) := by decide +kernel
theorem dX5_directionBack_43 : decode cX5_directionBack 43 = .ok (.ireturn, 1) := by decide +kernel
theorem dX5_travel_0 : decode cX5_travel 0 = .ok (.aload_n 1, 1) := by decide +kernel
theorem dX5_travel_1 : decode cX5_travel 1 = .ok (.getfield 191, 3) := by decide +kernel
theorem dX5_travel_4 : decode cX5_travel 4 = .ok (.istore 4, 2) := by decide +kernel
theorem dX5_travel_6 : decode cX5_travel 6 = .ok (.aload_n 0, 1) := by decide +kernel
theorem dX5_travel_7 : decode cX5_travel 7 = .ok (.iload 4, 2) := by decide +kernel
theorem dX5_travel_9 : decode cX5_travel 9 = .ok (.iload_n 3, 1) := by decide +kernel
theorem dX5_travel_10 : decode cX5_travel 10 = .ok (.invokevirtual 71, 3) := by decide +kernel
theorem dX5_travel_13 : decode cX5_travel 13 = .ok (.ifCond .ne 5, 3) := by decide +kernel
theorem dX5_travel_16 : decode cX5_travel 16 = .ok (.iconst (-1), 1) := by decide +kernel
theorem dX5_travel_17 : decode cX5_travel 17 = .ok (.ireturn, 1) := by decide +kernel
theorem dX5_travel_18 : decode cX5_travel 18 = .ok (.iload 4, 2) := by decide +kernel
theorem dX5_travel_20 : decode cX5_travel 20 = .ok (.iload_n 3, 1) := by decide +kernel
theorem dX5_travel_21 : decode cX5_travel 21 = .ok (.invokestatic 78, 3) := by decide +kernel
theorem dX5_travel_24 : decode cX5_travel 24 = .ok (.istore 5, 2) := by decide +kernel
theorem dX5_travel_26 : decode cX5_travel 26 = .ok (.aload_n 0, 1) := by decide +kernel
theorem dX5_travel_27 : decode cX5_travel 27 = .ok (.aload_n 0, 1) := by decide +kernel
theorem dX5_travel_28 : decode cX5_travel 28 = .ok (.getfield 9, 3) := by decide +kernel
theorem dX5_travel_31 : decode cX5_travel 31 = .ok (.iload 5, 2) := by decide +kernel
theorem dX5_travel_33 : decode cX5_travel 33 = .ok (.iaload, 1) := by decide +kernel
theorem dX5_travel_34 : decode cX5_travel 34 = .ok (.invokevirtual 298, 3) := by decide +kernel
theorem dX5_travel_37 : decode cX5_travel 37 = .ok (.istore 6, 2) := by decide +kernel
theorem dX5_travel_39 : decode cX5_travel 39 = .ok (.iload 6, 2) := by decide +kernel
theorem dX5_travel_41 : decode cX5_travel 41 = .ok (.ifCond .eq 7, 3) := by decide +kernel
theorem dX5_travel_44 : decode cX5_travel 44 = .ok (.iload 6, 2) := by decide +kernel
theorem dX5_travel_46 : decode cX5_travel 46 = .ok (.ineg, 1) := by decide +kernel
theorem dX5_travel_47 : decode cX5_travel 47 = .ok (.ireturn, 1) := by decide +kernel
theorem dX5_travel_48 : decode cX5_travel 48 = .ok (.aload_n 2, 1) := by decide +kernel
theorem dX5_travel_49 : decode cX5_travel 49 = .ok (.ifnull 20, 3) := by decide +kernel
theorem dX5_travel_52 : decode cX5_travel 52 = .ok (.aload_n 2, 1) := by decide +kernel
theorem dX5_travel_53 : decode cX5_travel 53 = .ok (.getfield 217, 3) := by decide +kernel
theorem dX5_travel_56 : decode cX5_travel 56 = .ok (.aload_n 0, 1) := by decide +kernel
theorem dX5_travel_57 : decode cX5_travel 57 = .ok (.getfield 13, 3) := by decide +kernel
theorem dX5_travel_60 : decode cX5_travel 60 = .ok (.iload 5, 2) := by decide +kernel
theorem dX5_travel_62 : decode cX5_travel 62 = .ok (.iaload, 1) := by decide +kernel
theorem dX5_travel_63 : decode cX5_travel 63 = .ok (.if_icmp .le 6, 3) := by decide +kernel
theorem dX5_travel_66 : decode cX5_travel 66 = .ok (.bipush (-29), 2) := by decide +kernel
theorem dX5_travel_68 : decode cX5_travel 68 = .ok (.ireturn, 1) := by decide +kernel
theorem dX5_travel_69 : decode cX5_travel 69 = .ok (.aload_n 0, 1) := by decide +kernel
theorem dX5_travel_70 : decode cX5_travel 70 = .ok (.iload 4, 2) := by decide +kernel
theorem dX5_travel_72 : decode cX5_travel 72 = .ok (.iload_n 3, 1) := by decide +kernel
theorem dX5_travel_73 : decode cX5_travel 73 = .ok (.invokevirtual 204, 3) := by decide +kernel
theorem dX5_travel_76 : decode cX5_travel 76 = .ok (.istore 7, 2) := by decide +kernel
theorem dX5_travel_78 : decode cX5_travel 78 = .ok (.aload_n 0, 1) := by decide +kernel
theorem dX5_travel_79 : decode cX5_travel 79 = .ok (.aload_n 0, 1) := by decide +kernel
theorem dX5_travel_80 : decode cX5_travel 80 = .ok (.getfield 9, 3) := by decide +kernel
theorem dX5_travel_83 : decode cX5_travel 83 = .ok (.iload 5, 2) := by decide +kernel
theorem dX5_travel_85 : decode cX5_travel 85 = .ok (.iaload, 1) := by decide +kernel
theorem dX5_travel_86 : decode cX5_travel 86 = .ok (.invokevirtual 301, 3) := by decide +kernel
theorem dX5_travel_89 : decode cX5_travel 89 = .ok (.aload_n 0, 1) := by decide +kernel
theorem dX5_travel_90 : decode cX5_travel 90 = .ok (.aload_n 1, 1) := by decide +kernel
theorem dX5_travel_91 : decode cX5_travel 91 = .ok (.aload_n 2, 1) := by decide +kernel
theorem dX5_travel_92 : decode cX5_travel 92 = .ok (.iload_n 3, 1) := by decide +kernel
theorem dX5_travel_93 : decode cX5_travel 93 = .ok (.iload 7, 2) := by decide +kernel
theorem dX5_travel_95 : decode cX5_travel 95 = .ok (.invokevirtual 304, 3) := by decide +kernel
theorem dX5_travel_98 : decode cX5_travel 98 = .ok (.aload_n 0, 1) := by decide +kernel
theorem dX5_travel_99 : decode cX5_travel 99 = .ok (.aload_n 1, 1) := by decide +kernel
theorem dX5_travel_100 : decode cX5_travel 100 = .ok (.aload_n 2, 1) := by decide +kernel
theorem dX5_travel_101 : decode cX5_travel 101 = .ok (.iload 7, 2) := by decide +kernel
theorem dX5_travel_103 : decode cX5_travel 103 = .ok (.invokevirtual 308, 3) := by decide +kernel
theorem dX5_travel_106 : decode cX5_travel 106 = .ok (.iload 7, 2) := by decide +kernel
theorem dX5_travel_108 : decode cX5_travel 108 = .ok (.ireturn, 1) := by decide +kernel
theorem dX5_obstacleOf_0 : decode cX5_obstacleOf 0 = .ok (.iload_n 1, 1) := by decide +kernel
theorem dX5_obstacleOf_1 : decode cX5_obstacleOf 1 = .ok (.iconst (-1), 1) := by decide +kernel
theorem dX5_obstacleOf_2 : decode cX5_obstacleOf 2 = .ok (.if_icmp .ne 6, 3) := by decide +kernel
theorem dX5_obstacleOf_5 : decode cX5_obstacleOf 5 = .ok (.bipush 25, 2) := by decide +kernel
theorem dX5_obstacleOf_7 : decode cX5_obstacleOf 7 = .ok (.ireturn, 1) := by decide +kernel
theorem dX5_obstacleOf_8 : decode cX5_obstacleOf 8 = .ok (.iload_n 1, 1) := by decide +kernel
theorem dX5_obstacleOf_9 : decode cX5_obstacleOf 9 = .ok (.sipush 200, 3) := by decide +kernel
theorem dX5_obstacleOf_12 : decode cX5_obstacleOf 12 = .ok (.if_icmp .lt 19, 3) := by decide +kernel
theorem dX5_obstacleOf_15 : decode cX5_obstacleOf 15 = .ok (.iload_n 1, 1) := by decide +kernel
theorem dX5_obstacleOf_16 : decode cX5_obstacleOf 16 = .ok (.sipush 300, 3) := by decide +kernel
theorem dX5_obstacleOf_19 : decode cX5_obstacleOf 19 = .ok (.if_icmp .ge 12, 3) := by decide +kernel
theorem dX5_obstacleOf_22 : decode cX5_obstacleOf 22 = .ok (.bipush 50, 2) := by decide +kernel
theorem dX5_obstacleOf_24 : decode cX5_obstacleOf 24 = .ok (.iload_n 1, 1) := by decide +kernel
theorem dX5_obstacleOf_25 : decode cX5_obstacleOf 25 = .ok (.iadd, 1) := by decide +kernel
theorem dX5_obstacleOf_26 : decode cX5_obstacleOf 26 = .ok (.sipush 200, 3) := by decide +kernel
theorem dX5_obstacleOf_29 : decode cX5_obstacleOf 29 = .ok (.isub, 1) := by decide +kernel
theorem dX5_obstacleOf_30 : decode cX5_obstacleOf 30 = .ok (.ireturn, 1) := by decide +kernel
theorem dX5_obstacleOf_31 : decode cX5_obstacleOf 31 = .ok (.aload_n 0, 1) := by decide +kernel
theorem dX5_obstacleOf_32 : decode cX5_obstacleOf 32 = .ok (.iload_n 1, 1) := by decide +kernel
theorem dX5_obstacleOf_33 : decode cX5_obstacleOf 33 = .ok (.invokevirtual 249, 3) := by decide +kernel
theorem dX5_obstacleOf_36 : decode cX5_obstacleOf 36 = .ok (.astore_n 2, 1) := by decide +kernel
theorem dX5_obstacleOf_37 : decode cX5_obstacleOf 37 = .ok (.aload_n 2, 1) := by decide +kernel
theorem dX5_obstacleOf_38 : decode cX5_obstacleOf 38 = .ok (.ifnull 8, 3) := by decide +kernel
theorem dX5_obstacleOf_41 : decode cX5_obstacleOf 41 = .ok (.aload_n 2, 1) := by decide +kernel
theorem dX5_obstacleOf_42 : decode cX5_obstacleOf 42 = .ok (.invokevirtual 312, 3) := by decide +kernel
theorem dX5_obstacleOf_45 : decode cX5_obstacleOf 45 = .ok (.ireturn, 1) := by decide +kernel
theorem dX5_obstacleOf_46 : decode cX5_obstacleOf 46 = .ok (.aload_n 0, 1) := by decide +kernel
theorem dX5_obstacleOf_47 : decode cX5_obstacleOf 47 = .ok (.iload_n 1, 1) := by decide +kernel
theorem dX5_obstacleOf_48 : decode cX5_obstacleOf 48 = .ok (.invokevirtual 255, 3) := by decide +kernel
theorem dX5_obstacleOf_51 : decode cX5_obstacleOf 51 = .ok (.astore_n 3, 1) := by decide +kernel
theorem dX5_obstacleOf_52 : decode cX5_obstacleOf 52 = .ok (.aload_n 3, 1) := by decide +kernel
theorem dX5_obstacleOf_53 : decode cX5_obstacleOf 53 = .ok (.ifnull 15, 3) := by decide +kernel
theorem dX5_obstacleOf_56 : decode cX5_obstacleOf 56 = .ok (.aload_n 3, 1) := by decide +kernel
theorem dX5_obstacleOf_57 : decode cX5_obstacleOf 57 = .ok (.getfield 89, 3) := by decide +kernel
theorem dX5_obstacleOf_60 : decode cX5_obstacleOf 60 = .ok (.ifCond .ne 8, 3) := by decide +kernel
theorem dX5_obstacleOf_63 : decode cX5_obstacleOf 63 = .ok (.bipush 28, 2) := by decide +kernel
theorem dX5_obstacleOf_65 : decode cX5_obstacleOf 65 = .ok (.goto 4, 3) := by decide +kernel
theorem dX5_obstacleOf_68 : decode cX5_obstacleOf 68 = .ok (.iconst 0, 1) := by decide +kernel
theorem dX5_obstacleOf_69 : decode cX5_obstacleOf 69 = .ok (.ireturn, 1) := by decide +kernel
theorem dX5_takeTurn_0 : decode cX5_takeTurn 0 = .ok (.aload_n 0, 1) := by decide +kernel
theorem dX5_takeTurn_1 : decode cX5_takeTurn 1 = .ok (.iload_n 1, 1) := by decide +kernel
theorem dX5_takeTurn_2 : decode cX5_takeTurn 2 = .ok (.invokevirtual 255, 3) := by decide +kernel
theorem dX5_takeTurn_5 : decode cX5_takeTurn 5 = .ok (.astore_n 2, 1) := by decide +kernel
theorem dX5_takeTurn_6 : decode cX5_takeTurn 6 = .ok (.aload_n 2, 1) := by decide +kernel
theorem dX5_takeTurn_7 : decode cX5_takeTurn 7 = .ok (.ifnull 7, 3) := by decide +kernel
theorem dX5_takeTurn_10 : decode cX5_takeTurn 10 = .ok (.aload_n 2, 1) := by decide +kernel
theorem dX5_takeTurn_11 : decode cX5_takeTurn 11 = .ok (.invokevirtual 315, 3) := by decide +kernel
theorem dX5_takeTurn_14 : decode cX5_takeTurn 14 = .ok (.return_, 1) := by decide +kernel
theorem dX5_goesWith_0 : decode cX5_goesWith 0 = .ok (.aload_n 0, 1) := by decide +kernel
theorem dX5_goesWith_1 : decode cX5_goesWith 1 = .ok (.aload_n 1, 1) := by decide +kernel
theorem dX5_goesWith_2 : decode cX5_goesWith 2 = .ok (.if_acmp .eq 19, 3) := by decide +kernel
theorem dX5_goesWith_5 : decode cX5_goesWith 5 = .ok (.aload_n 0, 1) := by decide +kernel
theorem dX5_goesWith_6 : decode cX5_goesWith 6 = .ok (.ifnull 19, 3) := by decide +kernel
theorem dX5_goesWith_9 : decode cX5_goesWith 9 = .ok (.aload_n 2, 1) := by decide +kernel
theorem dX5_goesWith_10 : decode cX5_goesWith 10 = .ok (.ifnull 15, 3) := by decide +kernel
theorem dX5_goesWith_13 : decode cX5_goesWith 13 = .ok (.aload_n 0, 1) := by decide +kernel
theorem dX5_goesWith_14 : decode cX5_goesWith 14 = .ok (.getfield 170, 3) := by decide +kernel
theorem dX5_goesWith_17 : decode cX5_goesWith 17 = .ok (.aload_n 2, 1) := by decide +kernel
theorem dX5_goesWith_18 : decode cX5_goesWith 18 = .ok (.if_acmp .ne 7, 3) := by decide +kernel
theorem dX5_goesWith_21 : decode cX5_goesWith 21 = .ok (.iconst 1, 1) := by decide +kernel
theorem dX5_goesWith_22 : decode cX5_goesWith 22 = .ok (.goto 4, 3) := by decide +kernel
theorem dX5_goesWith_25 : decode cX5_goesWith 25 = .ok (.iconst 0, 1) := by decide +kernel
theorem dX5_goesWith_26 : decode cX5_goesWith 26 = .ok (.ireturn, 1) := by decide +kernel
theorem dX5_tellOfAll_0 : decode cX5_tellOfAll 0 = .ok (.iconst 0, 1) := by decide +kernel
theorem dX5_tellOfAll_1 : decode cX5_tellOfAll 1 = .ok (.istore 5, 2) := by decide +kernel
theorem dX5_tellOfAll_3 : decode cX5_tellOfAll 3 = .ok (.iload 5, 2) := by decide +kernel
theorem dX5_tellOfAll_5 : decode cX5_tellOfAll 5 = .ok (.aload_n 0, 1) := by decide +kernel
theorem dX5_tellOfAll_6 : decode cX5_tellOfAll 6 = .ok (.getfield 129, 3) := by decide +kernel
theorem dX5_tellOfAll_9 : decode cX5_tellOfAll 9 = .ok (.if_icmp .ge 60, 3) := by decide +kernel
theorem dX5_tellOfAll_12 : decode cX5_tellOfAll 12 = .ok (.aload_n 0, 1) := by decide +kernel
theorem dX5_tellOfAll_13 : decode cX5_tellOfAll 13 = .ok (.iload 5, 2) := by decide +kernel
theorem dX5_tellOfAll_15 : decode cX5_tellOfAll 15 = .ok (.invokevirtual 133, 3) := by decide +kernel
theorem dX5_tellOfAll_18 : decode cX5_tellOfAll 18 = .ok (.aload_n 1, 1) := by decide +kernel
theorem dX5_tellOfAll_19 : decode cX5_tellOfAll 19 = .ok (.aload_n 2, 1) := by decide +kernel
theorem dX5_tellOfAll_20 : decode cX5_tellOfAll 20 = .ok (.invokestatic 318, 3) := by decide +kernel
theorem dX5_tellOfAll_23 : decode cX5_tellOfAll 23 = .ok (.ifCond .eq 40, 3) := by decide +kernel
theorem dX5_tellOfAll_26 : decode cX5_tellOfAll 26 = .ok (.sipush 1000, 3) := by decide +kernel
theorem dX5_tellOfAll_29 : decode cX5_tellOfAll 29 = .ok (.iload 5, 2) := by decide +kernel
theorem dX5_tellOfAll_31 : decode cX5_tellOfAll 31 = .ok (.imul, 1) := by decide +kernel
theorem dX5_tellOfAll_32 : decode cX5_tellOfAll 32 = .ok (.bipush 10, 2) := by decide +kernel
theorem dX5_tellOfAll_34 : decode cX5_tellOfAll 34 = .ok (.iload_n 3, 1) := by decide +kernel
theorem dX5_tellOfAll_35 : decode cX5_tellOfAll 35 = .ok (.imul, 1) := by decide +kernel
theorem dX5_tellOfAll_36 : decode cX5_tellOfAll 36 = .ok (.iadd, 1) := by decide +kernel
theorem dX5_tellOfAll_37 : decode cX5_tellOfAll 37 = .ok (.istore 6, 2) := by decide +kernel
theorem dX5_tellOfAll_39 : decode cX5_tellOfAll 39 = .ok (.aload_n 0, 1) := by decide +kernel
theorem dX5_tellOfAll_40 : decode cX5_tellOfAll 40 = .ok (.aload_n 1, 1) := by decide +kernel
theorem dX5_tellOfAll_41 : decode cX5_tellOfAll 41 = .ok (.getfield 191, 3) := by decide +kernel
theorem dX5_tellOfAll_44 : decode cX5_tellOfAll 44 = .ok (.iload 6, 2) := by decide +kernel
theorem dX5_tellOfAll_46 : decode cX5_tellOfAll 46 = .ok (.aload_n 1, 1) := by decide +kernel
theorem dX5_tellOfAll_47 : decode cX5_tellOfAll 47 = .ok (.aload_n 2, 1) := by decide +kernel
theorem dX5_tellOfAll_48 : decode cX5_tellOfAll 48 = .ok (.invokevirtual 322, 3) := by decide +kernel
theorem dX5_tellOfAll_51 : decode cX5_tellOfAll 51 = .ok (.aload_n 0, 1) := by decide +kernel
theorem dX5_tellOfAll_52 : decode cX5_tellOfAll 52 = .ok (.iload 4, 2) := by decide +kernel
theorem dX5_tellOfAll_54 : decode cX5_tellOfAll 54 = .ok (.iload 6, 2) := by decide +kernel
theorem dX5_tellOfAll_56 : decode cX5_tellOfAll 56 = .ok (.iconst 1, 1) := by decide +kernel
theorem dX5_tellOfAll_57 : decode cX5_tellOfAll 57 = .ok (.iadd, 1) := by decide +kernel
theorem dX5_tellOfAll_58 : decode cX5_tellOfAll 58 = .ok (.aload_n 1, 1) := by decide +kernel
theorem dX5_tellOfAll_59 : decode cX5_tellOfAll 59 = .ok (.aload_n 2, 1) := by decide +kernel
theorem dX5_tellOfAll_60 : decode cX5_tellOfAll 60 = .ok (.invokevirtual 322, 3) := by decide +kernel
theorem dX5_tellOfAll_63 : decode cX5_tellOfAll 63 = .ok (.iinc 5 1, 3) := by decide +kernel
theorem dX5_tellOfAll_66 : decode cX5_tellOfAll 66 = .ok (.goto (-63), 3) := by decide +kernel
theorem dX5_tellOfAll_69 : decode cX5_tellOfAll 69 = .ok (.return_, 1) := by decide +kernel
theorem dX5_tellOthersIn_0 : decode cX5_tellOthersIn 0 = .ok (.iconst 0, 1) := by decide +kernel
theorem dX5_tellOthersIn_1 : decode cX5_tellOthersIn 1 = .ok (.istore 5, 2) := by decide +kernel
theorem dX5_tellOthersIn_3 : decode cX5_tellOthersIn 3 = .ok (.iload 5, 2) := by decide +kernel
theorem dX5_tellOthersIn_5 : decode cX5_tellOthersIn 5 = .ok (.aload_n 0, 1) := by decide +kernel
theorem dX5_tellOthersIn_6 : decode cX5_tellOthersIn 6 = .ok (.getfield 129, 3) := by decide +kernel
theorem dX5_tellOthersIn_9 : decode cX5_tellOthersIn 9 = .ok (.if_icmp .ge 48, 3) := by decide +kernel
theorem dX5_tellOthersIn_12 : decode cX5_tellOthersIn 12 = .ok (.aload_n 0, 1) := by decide +kernel
theorem dX5_tellOthersIn_13 : decode cX5_tellOthersIn 13 = .ok (.iload 5, 2) := by decide +kernel
theorem dX5_tellOthersIn_15 : decode cX5_tellOthersIn 15 = .ok (.invokevirtual 133, 3) := by decide +kernel
theorem dX5_tellOthersIn_18 : decode cX5_tellOthersIn 18 = .ok (.astore 6, 2) := by decide +kernel
theorem dX5_tellOthersIn_20 : decode cX5_tellOthersIn 20 = .ok (.aload 6, 2) := by decide +kernel
theorem dX5_tellOthersIn_22 : decode cX5_tellOthersIn 22 = .ok (.ifnull 29, 3) := by decide +kernel
theorem dX5_tellOthersIn_25 : decode cX5_tellOthersIn 25 = .ok (.aload 6, 2) := by decide +kernel
theorem dX5_tellOthersIn_27 : decode cX5_tellOthersIn 27 = .ok (.getfield 191, 3) := by decide +kernel
theorem dX5_tellOthersIn_30 : decode cX5_tellOthersIn 30 = .ok (.iload_n 1, 1) := by decide +kernel
theorem dX5_tellOthersIn_31 : decode cX5_tellOthersIn 31 = .ok (.if_icmp .ne 20, 3) := by decide +kernel
theorem dX5_tellOthersIn_34 : decode cX5_tellOthersIn 34 = .ok (.aload 6, 2) := by decide +kernel
theorem dX5_tellOthersIn_36 : decode cX5_tellOthersIn 36 = .ok (.aload_n 3, 1) := by decide +kernel
theorem dX5_tellOthersIn_37 : decode cX5_tellOthersIn 37 = .ok (.aload 4, 2) := by decide +kernel
theorem dX5_tellOthersIn_39 : decode cX5_tellOthersIn 39 = .ok (.invokestatic 318, 3) := by decide +kernel
theorem dX5_tellOthersIn_42 : decode cX5_tellOthersIn 42 = .ok (.ifCond .ne 9, 3) := by decide +kernel
theorem dX5_tellOthersIn_45 : decode cX5_tellOthersIn 45 = .ok (.aload 6, 2) := by decide +kernel
theorem dX5_tellOthersIn_47 : decode cX5_tellOthersIn 47 = .ok (.iload_n 2, 1) := by decide +kernel
theorem dX5_tellOthersIn_48 : decode cX5_tellOthersIn 48 = .ok (.invokevirtual 326, 3) := by decide +kernel
theorem dX5_tellOthersIn_51 : decode cX5_tellOthersIn 51 = .ok (.iinc 5 1, 3) := by decide +kernel
theorem dX5_tellOthersIn_54 : decode cX5_tellOthersIn 54 = .ok (.goto (-51), 3) := by decide +kernel
theorem dX5_tellOthersIn_57 : decode cX5_tellOthersIn 57 = .ok (.return_, 1) := by decide +kernel
theorem dX5_moveAll_0 : decode cX5_moveAll 0 = .ok (.iconst 0, 1) := by decide +kernel
theorem dX5_moveAll_1 : decode cX5_moveAll 1 = .ok (.istore 4, 2) := by decide +kernel
theorem dX5_moveAll_3 : decode cX5_moveAll 3 = .ok (.iload 4, 2) := by decide +kernel
theorem dX5_moveAll_5 : decode cX5_moveAll 5 = .ok (.aload_n 0, 1) := by decide +kernel
theorem dX5_moveAll_6 : decode cX5_moveAll 6 = .ok (.getfield 129, 3) := by decide +kernel
theorem dX5_moveAll_9 : decode cX5_moveAll 9 = .ok (.if_icmp .ge 48, 3) := by decide +kernel
theorem dX5_moveAll_12 : decode cX5_moveAll 12 = .ok (.aload_n 0, 1) := by decide +kernel
theorem dX5_moveAll_13 : decode cX5_moveAll 13 = .ok (.iload 4, 2) := by decide +kernel
theorem dX5_moveAll_15 : decode cX5_moveAll 15 = .ok (.invokevirtual 133, 3) := by decide +kernel
theorem dX5_moveAll_18 : decode cX5_moveAll 18 = .ok (.astore 5, 2) := by decide +kernel
theorem dX5_moveAll_20 : decode cX5_moveAll 20 = .ok (.aload 5, 2) := by decide +kernel
theorem dX5_moveAll_22 : decode cX5_moveAll 22 = .ok (.ifnull 29, 3) := by decide +kernel
theorem dX5_moveAll_25 : decode cX5_moveAll 25 = .ok (.aload 5, 2) := by decide +kernel
theorem dX5_moveAll_27 : decode cX5_moveAll 27 = .ok (.aload_n 1, 1) := by decide +kernel
theorem dX5_moveAll_28 : decode cX5_moveAll 28 = .ok (.aload_n 2, 1) := by decide +kernel
theorem dX5_moveAll_29 : decode cX5_moveAll 29 = .ok (.invokestatic 318, 3) := by decide +kernel
theorem dX5_moveAll_32 : decode cX5_moveAll 32 = .ok (.ifCond .eq 19, 3) := by decide +kernel
theorem dX5_moveAll_35 : decode cX5_moveAll 35 = .ok (.aload 5, 2) := by decide +kernel
theorem dX5_moveAll_37 : decode cX5_moveAll 37 = .ok (.aload 5, 2) := by decide +kernel
theorem dX5_moveAll_39 : decode cX5_moveAll 39 = .ok (.getfield 191, 3) := by decide +kernel
theorem dX5_moveAll_42 : decode cX5_moveAll 42 = .ok (.putfield 226, 3) := by decide +kernel
theorem dX5_moveAll_45 : decode cX5_moveAll 45 = .ok (.aload 5, 2) := by decide +kernel
theorem dX5_moveAll_47 : decode cX5_moveAll 47 = .ok (.iload_n 3, 1) := by decide +kernel
theorem dX5_moveAll_48 : decode cX5_moveAll 48 = .ok (.putfield 191, 3) := by decide +kernel
theorem dX5_moveAll_51 : decode cX5_moveAll 51 = .ok (.iinc 4 1, 3) := by decide +kernel
theorem dX5_moveAll_54 : decode cX5_moveAll 54 = .ok (.goto (-51), 3) := by decide +kernel
theorem dX5_moveAll_57 : decode cX5_moveAll 57 = .ok (.aload_n 2, 1) := by decide +kernel
theorem dX5_moveAll_58 : decode cX5_moveAll 58 = .ok (.ifnull 8, 3) := by decide +kernel
theorem dX5_moveAll_61 : decode cX5_moveAll 61 = .ok (.aload_n 2, 1) := by decide +kernel
theorem dX5_moveAll_62 : decode cX5_moveAll 62 = .ok (.iload_n 3, 1) := by decide +kernel
theorem dX5_moveAll_63 : decode cX5_moveAll 63 = .ok (.putfield 287, 3) := by decide +kernel
theorem dX5_moveAll_66 : decode cX5_moveAll 66 = .ok (.return_, 1) := by decide +kernel
theorem dX6_init_0 : decode cX6_init 0 = .ok (.aload_n 0, 1) := by decide +kernel
theorem dX6_init_1 : decode cX6_init 1 = .ok (.invokespecial 1, 3) := by decide +kernel
theorem dX6_init_4 : decode cX6_init 4 = .ok (.aload_n 0, 1) := by decide +kernel
theorem dX6_init_5 : decode cX6_init 5 = .ok (.sipush 160, 3) := by decide +kernel
theorem dX6_init_8 : decode cX6_init 8 = .ok (.newarray .int, 2) := by decide +kernel
theorem dX6_init_10 : decode cX6_init 10 = .ok (.putfield 7, 3) := by decide +kernel
theorem dX6_init_13 : decode cX6_init 13 = .ok (.aload_n 0, 1) := by decide +kernel
theorem dX6_init_14 : decode cX6_init 14 = .ok (.sipush 160, 3) := by decide +kernel
theorem dX6_init_17 : decode cX6_init 17 = .ok (.newarray .int, 2) := by decide +kernel
theorem dX6_init_19 : decode cX6_init 19 = .ok (.putfield 13, 3) := by decide +kernel
theorem dX6_init_22 : decode cX6_init 22 = .ok (.aload_n 0, 1) := by decide +kernel
theorem dX6_init_23 : decode cX6_init 23 = .ok (.bipush 15, 2) := by decide +kernel
theorem dX6_init_25 : decode cX6_init 25 = .ok (.newarray .int, 2) := by decide +kernel
theorem dX6_init_27 : decode cX6_init 27 = .ok (.putfield 16, 3) := by decide +kernel
theorem dX6_init_30 : decode cX6_init 30 = .ok (.aload_n 0, 1) := by decide +kernel
theorem dX6_init_31 : decode cX6_init 31 = .ok (.bipush 15, 2) := by decide +kernel
theorem dX6_init_33 : decode cX6_init 33 = .ok (.newarray .int, 2) := by decide +kernel
theorem dX6_init_35 : decode cX6_init 35 = .ok (.putfield 19, 3) := by decide +kernel
theorem dX6_init_38 : decode cX6_init 38 = .ok (.aload_n 0, 1) := by decide +kernel
theorem dX6_init_39 : decode cX6_init 39 = .ok (.bipush 15, 2) := by decide +kernel
theorem dX6_init_41 : decode cX6_init 41 = .ok (.newarray .int, 2) := by decide +kernel
theorem dX6_init_43 : decode cX6_init 43 = .ok (.putfield 22, 3) := by decide +kernel
theorem dX6_init_46 : decode cX6_init 46 = .ok (.aload_n 0, 1) := by decide +kernel
theorem dX6_init_47 : decode cX6_init 47 = .ok (.bipush 15, 2) := by decide +kernel
theorem dX6_init_49 : decode cX6_init 49 = .ok (.newarray .boolean, 2) := by decide +kernel
theorem dX6_init_51 : decode cX6_init 51 = .ok (.putfield 25, 3) := by decide +kernel
theorem dX6_init_54 : decode cX6_init 54 = .ok (.aload_n 0, 1) := by decide +kernel
theorem dX6_init_55 : decode cX6_init 55 = .ok (.bipush 15, 2) := by decide +kernel
theorem dX6_init_57 : decode cX6_init 57 = .ok (.newarray .boolean, 2) := by decide +kernel
theorem dX6_init_59 : decode cX6_init 59 = .ok (.putfield 29, 3) := by decide +kernel
theorem dX6_init_62 : decode cX6_init 62 = .ok (.aload_n 0, 1) := by decide +kernel
theorem dX6_init_63 : decode cX6_init 63 = .ok (.bipush 30, 2) := by decide +kernel
theorem dX6_init_65 : decode cX6_init 65 = .ok (.newarray .int, 2) := by decide +kernel
theorem dX6_init_67 : decode cX6_init 67 = .ok (.putfield 32, 3) := by decide +kernel
theorem dX6_init_70 : decode cX6_init 70 = .ok (.aload_n 0, 1) := by decide +kernel
theorem dX6_init_71 : decode cX6_init 71 = .ok (.bipush 30, 2) := by decide +kernel
theorem dX6_init_73 : decode cX6_init 73 = .ok (.newarray .int, 2) := by decide +kernel
theorem dX6_init_75 : decode cX6_init 75 = .ok (.putfield 35, 3) := by decide +kernel
theorem dX6_init_78 : decode cX6_init 78 = .ok (.aload_n 0, 1) := by decide +kernel
theorem dX6_init_79 : decode cX6_init 79 = .ok (.bipush 30, 2) := by decide +kernel
theorem dX6_init_81 : decode cX6_init 81 = .ok (.newarray .int, 2) := by decide +kernel
theorem dX6_init_83 : decode cX6_init 83 = .ok (.putfield 38, 3) := by decide +kernel
theorem dX6_init_86 : decode cX6_init 86 = .ok (.aload_n 0, 1) := by decide +kernel
theorem dX6_init_87 : decode cX6_init 87 = .ok (.bipush 30, 2) := by decide +kernel
theorem dX6_init_89 : decode cX6_init 89 = .ok (.newarray .int, 2) := by decide +kernel
theorem dX6_init_91 : decode cX6_init 91 = .ok (.putfield 41, 3) := by decide +kernel
theorem dX6_init_94 : decode cX6_init 94 = .ok (.aload_n 0, 1) := by decide +kernel
theorem dX6_init_95 : decode cX6_init 95 = .ok (.bipush 30, 2) := by decide +kernel
theorem dX6_init_97 : decode cX6_init 97 = .ok (.newarray .boolean, 2) := by decide +kernel
theorem dX6_init_99 : decode cX6_init 99 = .ok (.putfield 44, 3) := by decide +kernel
theorem dX6_init_102 : decode cX6_init 102 = .ok (.aload_n 0, 1) := by decide +kernel
theorem dX6_init_103 : decode cX6_init 103 = .ok (.bipush 6, 2) := by decide +kernel
theorem dX6_init_105 : decode cX6_init 105 = .ok (.newarray .int, 2) := by decide +kernel
theorem dX6_init_107 : decode cX6_init 107 = .ok (.putfield 47, 3) := by decide +kernel
theorem dX6_init_110 : decode cX6_init 110 = .ok (.aload_n 0, 1) := by decide +kernel
theorem dX6_init_111 : decode cX6_init 111 = .ok (.bipush 6, 2) := by decide +kernel
theorem dX6_init_113 : decode cX6_init 113 = .ok (.newarray .int, 2) := by decide +kernel
theorem dX6_init_115 : decode cX6_init 115 = .ok (.putfield 50, 3) := by decide +kernel
theorem dX6_init_118 : decode cX6_init 118 = .ok (.aload_n 0, 1) := by decide +kernel
theorem dX6_init_119 : decode cX6_init 119 = .ok (.bipush 6, 2) := by decide +kernel
theorem dX6_init_121 : decode cX6_init 121 = .ok (.newarray .int, 2) := by decide +kernel
theorem dX6_init_123 : decode cX6_init 123 = .ok (.putfield 53, 3) := by decide +kernel
theorem dX6_init_126 : decode cX6_init 126 = .ok (.aload_n 0, 1) := by decide +kernel
theorem dX6_init_127 : decode cX6_init 127 = .ok (.bipush 48, 2) := by decide +kernel
theorem dX6_init_129 : decode cX6_init 129 = .ok (.newarray .int, 2) := by decide +kernel
theorem dX6_init_131 : decode cX6_init 131 = .ok (.putfield 56, 3) := by decide +kernel
theorem dX6_init_134 : decode cX6_init 134 = .ok (.aload_n 0, 1) := by decide +kernel
theorem dX6_init_135 : decode cX6_init 135 = .ok (.bipush 6, 2) := by decide +kernel
theorem dX6_init_137 : decode cX6_init 137 = .ok (.newarray .int, 2) := by decide +kernel
theorem dX6_init_139 : decode cX6_init 139 = .ok (.putfield 59, 3) := by decide +kernel
theorem dX6_init_142 : decode cX6_init 142 = .ok (.aload_n 0, 1) := by decide +kernel
theorem dX6_init_143 : decode cX6_init 143 = .ok (.bipush 20, 2) := by decide +kernel
theorem dX6_init_145 : decode cX6_init 145 = .ok (.newarray .int, 2) := by decide +kernel
theorem dX6_init_147 : decode cX6_init 147 = .ok (.putfield 62, 3) := by decide +kernel
theorem dX6_init_150 : decode cX6_init 150 = .ok (.aload_n 0, 1) := by decide +kernel
theorem dX6_init_151 : decode cX6_init 151 = .ok (.iconst 5, 1) := by decide +kernel
theorem dX6_init_152 : decode cX6_init 152 = .ok (.newarray .int, 2) := by decide +kernel
theorem dX6_init_154 : decode cX6_init 154 = .ok (.putfield 65, 3) := by decide +kernel
theorem dX6_init_157 : decode cX6_init 157 = .ok (.aload_n 0, 1) := by decide +kernel
theorem dX6_init_158 : decode cX6_init 158 = .ok (.iconst 5, 1) := by decide +kernel
theorem dX6_init_159 : decode cX6_init 159 = .ok (.newarray .int, 2) := by decide +kernel
theorem dX6_init_161 : decode cX6_init 161 = .ok (.putfield 68, 3) := by decide +kernel
theorem dX6_init_164 : decode cX6_init 164 = .ok (.aload_n 0, 1) := by decide +kernel
theorem dX6_init_165 : decode cX6_init 165 = .ok (.sipush 140, 3) := by decide +kernel
theorem dX6_init_168 : decode cX6_init 168 = .ok (.newarray .boolean, 2) := by decide +kernel
theorem dX6_init_170 : decode cX6_init 170 = .ok (.putfield 71, 3) := by decide +kernel
theorem dX6_init_173 : decode cX6_init 173 = .ok (.aload_n 0, 1) := by decide +kernel
theorem dX6_init_174 : decode cX6_init 174 = .ok (.bipush 20, 2) := by decide +kernel
theorem dX6_init_176 : decode cX6_init 176 = .ok (.newarray .int, 2) := by decide +kernel
theorem dX6_init_178 : decode cX6_init 178 = .ok (.putfield 74, 3) := by decide +kernel
theorem dX6_init_181 : decode cX6_init 181 = .ok (.return_, 1) := by decide +kernel
theorem dX6_in_0 : decode cX6_in 0 = .ok (.iload_n 0, 1) := by decide +kernel
theorem dX6_in_1 : decode cX6_in 1 = .ok (.iload_n 1, 1) := by decide +kernel
theorem dX6_in_2 : decode cX6_in 2 = .ok (.if_icmp .lt 12, 3) := by decide +kernel
theorem dX6_in_5 : decode cX6_in 5 = .ok (.iload_n 0, 1) := by decide +kernel
theorem dX6_in_6 : decode cX6_in 6 = .ok (.iload_n 2, 1) := by decide +kernel
theorem dX6_in_7 : decode cX6_in 7 = .ok (.if_icmp .gt 7, 3) := by decide +kernel
theorem dX6_in_10 : decode cX6_in 10 = .ok (.iconst 1, 1) := by decide +kernel
theorem dX6_in_11 : decode cX6_in 11 = .ok (.goto 4, 3) := by decide +kernel
theorem dX6_in_14 : decode cX6_in 14 = .ok (.iconst 0, 1) := by decide +kernel
theorem dX6_in_15 : decode cX6_in 15 = .ok (.ireturn, 1) := by decide +kernel
theorem dX6_isRoom_0 : decode cX6_isRoom 0 = .ok (.iload_n 1, 1) := by decide +kernel
theorem dX6_isRoom_1 : decode cX6_isRoom 1 = .ok (.iconst 0, 1) := by decide +kernel
theorem dX6_isRoom_2 : decode cX6_isRoom 2 = .ok (.aload_n 0, 1) := by decide +kernel
theorem dX6_isRoom_3 : decode cX6_isRoom 3 = .ok (.getfield 81, 3) := by decide +kernel
theorem dX6_isRoom_6 : decode cX6_isRoom 6 = .ok (.iconst 1, 1) := by decide +kernel
theorem dX6_isRoom_7 : decode cX6_isRoom 7 = .ok (.isub, 1) := by decide +kernel
theorem dX6_isRoom_8 : decode cX6_isRoom 8 = .ok (.invokestatic 84, 3) := by decide +kernel
theorem dX6_isRoom_11 : decode cX6_isRoom 11 = .ok (.ireturn, 1) := by decide +kernel
theorem dX6_isDoor_0 : decode cX6_isDoor 0 = .ok (.iload_n 1, 1) := by decide +kernel
theorem dX6_isDoor_1 : decode cX6_isDoor 1 = .ok (.iconst 0, 1) := by decide +kernel
theorem dX6_isDoor_2 : decode cX6_isDoor 2 = .ok (.aload_n 0, 1) := by decide +kernel
theorem dX6_isDoor_3 : decode cX6_isDoor 3 = .ok (.getfield 88, 3) := by decide +kernel
theorem dX6_isDoor_6 : decode cX6_isDoor 6 = .ok (.iconst 1, 1) := by decide +kernel
theorem dX6_isDoor_7 : decode cX6_isDoor 7 = .ok (.isub, 1) := by decide +kernel
theorem dX6_isDoor_8 : decode cX6_isDoor 8 = .ok (.invokestatic 84, 3) := by decide +kernel
theorem dX6_isDoor_11 : decode cX6_isDoor 11 = .ok (.ireturn, 1) := by decide +kernel
theorem dX6_isThing_0 : decode cX6_isThing 0 = .ok (.iload_n 1, 1) := by decide +kernel
theorem dX6_isThing_1 : decode cX6_isThing 1 = .ok (.iconst 0, 1) := by decide +kernel
theorem dX6_isThing_2 : decode cX6_isThing 2 = .ok (.aload_n 0, 1) := by decide +kernel
theorem dX6_isThing_3 : decode cX6_isThing 3 = .ok (.getfield 91, 3) := by decide +kernel
theorem dX6_isThing_6 : decode cX6_isThing 6 = .ok (.iconst 1, 1) := by decide +kernel
theorem dX6_isThing_7 : decode cX6_isThing 7 = .ok (.isub, 1) := by decide +kernel
theorem dX6_isThing_8 : decode cX6_isThing 8 = .ok (.invokestatic 84, 3) := by decide +kernel
theorem dX6_isThing_11 : decode cX6_isThing 11 = .ok (.ireturn, 1) := by decide +kernel
theorem dX6_isBeing_0 : decode cX6_isBeing 0 = .ok (.iload_n 1, 1) := by decide +kernel
theorem dX6_isBeing_1 : decode cX6_isBeing 1 = .ok (.iconst 0, 1) := by decide +kernel
theorem dX6_isBeing_2 : decode cX6_isBeing 2 = .ok (.aload_n 0, 1) := by decide +kernel
theorem dX6_isBeing_3 : decode cX6_isBeing 3 = .ok (.getfield 94, 3) := by decide +kernel
theorem dX6_isBeing_6 : decode cX6_isBeing 6 = .ok (.iconst 1, 1) := by decide +kernel
theorem dX6_isBeing_7 : decode cX6_isBeing 7 = .ok (.isub, 1) := by decide +kernel
theorem dX6_isBeing_8 : decode cX6_isBeing 8 = .ok (.invokestatic 84, 3) := by decide +kernel
theorem dX6_isBeing_11 : decode cX6_isBeing 11 = .ok (.ireturn, 1) := by decide +kernel
theorem dX6_room_0 : decode cX6_room 0 = .ok (.aload_n 0, 1) := by decide +kernel
theorem dX6_room_1 : decode cX6_room 1 = .ok (.iconst 0, 1) := by decide +kernel
theorem dX6_room_2 : decode cX6_room 2 = .ok (.putfield 77, 3) := by decide +kernel
theorem dX6_room_5 : decode cX6_room 5 = .ok (.aload_n 0, 1) := by decide +kernel
theorem dX6_room_6 : decode cX6_room 6 = .ok (.getfield 81, 3) := by decide +kernel
theorem dX6_room_9 : decode cX6_room 9 = .ok (.bipush 20, 2) := by decide +kernel
theorem dX6_room_11 : decode cX6_room 11 = .ok (.if_icmp .ne 6, 3) := by decide +kernel
theorem dX6_room_14 : decode cX6_room 14 = .ok (.bipush (-2), 2) := by decide +kernel
theorem dX6_room_16 : decode cX6_room 16 = .ok (.ireturn, 1) := by decide +kernel
theorem dX6_room_17 : decode cX6_room 17 = .ok (.iconst 0, 1) := by decide +kernel
theorem dX6_room_18 : decode cX6_room 18 = .ok (.istore_n 1, 1) := by decide +kernel
theorem dX6_room_19 : decode cX6_room 19 = .ok (.iload_n 1, 1) := by decide +kernel
theorem dX6_room_20 : decode cX6_room 20 = .ok (.bipush 8, 2) := by decide +kernel
theorem dX6_room_22 : decode cX6_room 22 = .ok (.if_icmp .ge 40, 3) := by decide +kernel
theorem dX6_room_25 : decode cX6_room 25 = .ok (.aload_n 0, 1) := by decide +kernel
theorem dX6_room_26 : decode cX6_room 26 = .ok (.getfield 7, 3) := by decide +kernel
theorem dX6_room_29 : decode cX6_room 29 = .ok (.bipush 8, 2) := by decide +kernel
theorem dX6_room_31 : decode cX6_room 31 = .ok (.aload_n 0, 1) := by decide +kernel
theorem dX6_room_32 : decode cX6_room 32 = .ok (.getfield 81, 3) := by decide +kernel
theorem dX6_room_35 : decode cX6_room 35 = .ok (.imul, 1) := by decide +kernel
theorem dX6_room_36 : decode cX6_room 36 = .ok (.iload_n 1, 1) := by decide +kernel
theorem dX6_room_37 : decode cX6_room 37 = .ok (.iadd, 1) := by decide +kernel
theorem dX6_room_38 : decode cX6_room 38 = .ok (.iconst (-1), 1) := by decide +kernel
theorem dX6_room_39 : decode cX6_room 39 = .ok (.iastore, 1) := by decide +kernel
theorem dX6_room_40 : decode cX6_room 40 = .ok (.aload_n 0, 1) := by decide +kernel
theorem dX6_room_41 : decode cX6_room 41 = .ok (.getfield 13, 3) := by decide +kernel
theorem dX6_room_44 : decode cX6_room 44 = .ok (.bipush 8, 2) := by decide +kernel
theorem dX6_room_46 : decode cX6_room 46 = .ok (.aload_n 0, 1) := by decide +kernel
theorem dX6_room_47 : decode cX6_room 47 = .ok (.getfield 81, 3) := by decide +kernel
theorem dX6_room_50 : decode cX6_room 50 = .ok (.imul, 1) := by decide +kernel
theorem dX6_room_51 : decode cX6_room 51 = .ok (.iload_n 1, 1) := by decide +kernel
theorem dX6_room_52 : decode cX6_room 52 = .ok (.iadd, 1) := by decide +kernel
theorem dX6_room_53 : decode cX6_room 53 = .ok (.bipush 9, 2) := by decide +kernel
theorem dX6_room_55 : decode cX6_room 55 = .ok (.iastore, 1) := by decide +kernel
theorem dX6_room_56 : decode cX6_room 56 = .ok (.iinc 1 1, 3) := by decide +kernel
theorem dX6_room_59 : decode cX6_room 59 = .ok (.goto (-40), 3) := by decide +kernel
theorem dX6_room_62 : decode cX6_room 62 = .ok (.aload_n 0, 1) := by decide +kernel
theorem dX6_room_63 : decode cX6_room 63 = .ok (.dup, 1) := by decide +kernel
theorem dX6_room_64 : decode cX6_room 64 = .ok (.getfield 81, 3) := by decide +kernel
theorem dX6_room_67 : decode cX6_room 67 = .ok (.iconst 1, 1) := by decide +kernel
theorem dX6_room_68 : decode cX6_room 68 = .ok (.iadd, 1) := by decide +kernel
theorem dX6_room_69 : decode cX6_room 69 = .ok (.putfield 81, 3) := by decide +kernel
theorem dX6_room_72 : decode cX6_room 72 = .ok (.aload_n 0, 1) := by decide +kernel
theorem dX6_room_73 : decode cX6_room 73 = .ok (.getfield 81, 3) := by decide +kernel
theorem dX6_room_76 : decode cX6_room 76 = .ok (.iconst 1, 1) := by decide +kernel
theorem dX6_room_77 : decode cX6_room 77 = .ok (.isub, 1) := by decide +kernel
theorem dX6_room_78 : decode cX6_room 78 = .ok (.ireturn, 1) := by decide +kernel
theorem dX6_door_0 : decode cX6_door 0 = .ok (.aload_n 0, 1) := by decide +kernel
theorem dX6_door_1 : decode cX6_door 1 = .ok (.iconst 0, 1) := by decide +kernel
theorem dX6_door_2 : decode cX6_door 2 = .ok (.putfield 77, 3) := by decide +kernel
theorem dX6_door_5 : decode cX6_door 5 = .ok (.aload_n 0, 1) := by decide +kernel
theorem dX6_door_6 : decode cX6_door 6 = .ok (.iload_n 1, 1) := by decide +kernel
theorem dX6_door_7 : decode cX6_door 7 = .ok (.invokevirtual 97, 3) := by decide +kernel
theorem dX6_door_10 : decode cX6_door 10 = .ok (.ifCond .eq 21, 3) := by decide +kernel
theorem dX6_door_13 : decode cX6_door 13 = .ok (.iload_n 2, 1) := by decide +kernel
theorem dX6_door_14 : decode cX6_door 14 = .ok (.iconst (-1), 1) := by decide +kernel
theorem dX6_door_15 : decode cX6_door 15 = .ok (.if_icmp .eq 11, 3) := by decide +kernel
theorem dX6_door_18 : decode cX6_door 18 = .ok (.aload_n 0, 1) := by decide +kernel
theorem dX6_door_19 : decode cX6_door 19 = .ok (.iload_n 2, 1) := by decide +kernel
theorem dX6_door_20 : decode cX6_door 20 = .ok (.invokevirtual 97, 3) := by decide +kernel
theorem dX6_door_23 : decode cX6_door 23 = .ok (.ifCond .eq 8, 3) := by decide +kernel
theorem dX6_door_26 : decode cX6_door 26 = .ok (.iload_n 1, 1) := by decide +kernel
theorem dX6_door_27 : decode cX6_door 27 = .ok (.iload_n 2, 1) := by decide +kernel
theorem dX6_door_28 : decode cX6_door 28 = .ok (.if_icmp .ne 5, 3) := by decide +kernel
theorem dX6_door_31 : decode cX6_door 31 = .ok (.iconst (-1), 1) := by decide +kernel
theorem dX6_door_32 : decode cX6_door 32 = .ok (.ireturn, 1) := by decide +kernel
theorem dX6_door_33 : decode cX6_door 33 = .ok (.aload_n 0, 1) := by decide +kernel
theorem dX6_door_34 : decode cX6_door 34 = .ok (.getfield 88, 3) := by decide +kernel
theorem dX6_door_37 : decode cX6_door 37 = .ok (.bipush 15, 2) := by decide +kernel
theorem dX6_door_39 : decode cX6_door 39 = .ok (.if_icmp .ne 6, 3) := by decide +kernel
theorem dX6_door_42 : decode cX6_door 42 = .ok (.bipush (-2), 2) := by decide +kernel
theorem dX6_door_44 : decode cX6_door 44 = .ok (.ireturn, 1) := by decide +kernel
theorem dX6_door_45 : decode cX6_door 45 = .ok (.aload_n 0, 1) := by decide +kernel
theorem dX6_door_46 : decode cX6_door 46 = .ok (.getfield 16, 3) := by decide +kernel
theorem dX6_door_49 : decode cX6_door 49 = .ok (.aload_n 0, 1) := by decide +kernel
theorem dX6_door_50 : decode cX6_door 50 = .ok (.getfield 88, 3) := by decide +kernel
theorem dX6_door_53 : decode cX6_door 53 = .ok (.iload_n 1, 1) := by decide +kernel
theorem dX6_door_54 : decode cX6_door 54 = .ok (.iastore, 1) := by decide +kernel
theorem dX6_door_55 : decode cX6_door 55 = .ok (.aload_n 0, 1) := by decide +kernel
theorem dX6_door_56 : decode cX6_door 56 = .ok (.getfield 19, 3) := by decide +kernel
theorem dX6_door_59 : decode cX6_door 59 = .ok (.aload_n 0, 1) := by decide +kernel
theorem dX6_door_60 : decode cX6_door 60 = .ok (.getfield 88, 3) := by decide +kernel
theorem dX6_door_63 : decode cX6_door 63 = .ok (.iload_n 2, 1) := by decide +kernel
theorem dX6_door_64 : decode cX6_door 64 = .ok (.iastore, 1) := by decide +kernel
theorem dX6_door_65 : decode cX6_door 65 = .ok (.aload_n 0, 1) := by decide +kernel
theorem dX6_door_66 : decode cX6_door 66 = .ok (.getfield 22, 3) := by decide +kernel
theorem dX6_door_69 : decode cX6_door 69 = .ok (.aload_n 0, 1) := by decide +kernel
theorem dX6_door_70 : decode cX6_door 70 = .ok (.getfield 88, 3) := by decide +kernel
theorem dX6_door_73 : decode cX6_door 73 = .ok (.iconst (-1), 1) := by decide +kernel
theorem dX6_door_74 : decode cX6_door 74 = .ok (.iastore, 1) := by decide +kernel
theorem dX6_door_75 : decode cX6_door 75 = .ok (.aload_n 0, 1) := by decide +kernel
theorem dX6_door_76 : decode cX6_door 76 = .ok (.dup, 1) := by decide +kernel
theorem dX6_door_77 : decode cX6_door 77 = .ok (.getfield 88, 3) := by decide +kernel
theorem dX6_door_80 : decode cX6_door 80 = .ok (.iconst 1, 1) := by decide +kernel
theorem dX6_door_81 : decode cX6_door 81 = .ok (.iadd, 1) := by decide +kernel
theorem dX6_door_82 : decode cX6_door 82 = .ok (.putfield 88, 3) := by decide +kernel
theorem dX6_door_85 : decode cX6_door 85 = .ok (.aload_n 0, 1) := by decide +kernel
theorem dX6_door_86 : decode cX6_door 86 = .ok (.getfield 88, 3) := by decide +kernel
theorem dX6_door_89 : decode cX6_door 89 = .ok (.iconst 1, 1) := by decide +kernel
theorem dX6_door_90 : decode cX6_door 90 = .ok (.isub, 1) := by decide +kernel
theorem dX6_door_91 : decode cX6_door 91 = .ok (.ireturn, 1) := by decide +kernel
theorem dX6_isSide_0 : decode cX6_isSide 0 = .ok (.aload_n 0, 1) := by decide +kernel
theorem dX6_isSide_1 : decode cX6_isSide 1 = .ok (.getfield 16, 3) := by decide +kernel
theorem dX6_isSide_4 : decode cX6_isSide 4 = .ok (.iload_n 1, 1) := by decide +kernel
theorem dX6_isSide_5 : decode cX6_isSide 5 = .ok (.iaload, 1) := by decide +kernel
theorem dX6_isSide_6 : decode cX6_isSide 6 = .ok (.iload_n 2, 1) := by decide +kernel
theorem dX6_isSide_7 : decode cX6_isSide 7 = .ok (.if_icmp .eq 13, 3) := by decide +kernel
theorem dX6_isSide_10 : decode cX6_isSide 10 = .ok (.aload_n 0, 1) := by decide +kernel
theorem dX6_isSide_11 : decode cX6_isSide 11 = .ok (.getfield 19, 3) := by decide +kernel
theorem dX6_isSide_14 : decode cX6_isSide 14 = .ok (.iload_n 1, 1) := by decide +kernel
theorem dX6_isSide_15 : decode cX6_isSide 15 = .ok (.iaload, 1) := by decide +kernel
theorem dX6_isSide_16 : decode cX6_isSide 16 = .ok (.iload_n 2, 1) := by decide +kernel
theorem dX6_isSide_17 : decode cX6_isSide 17 = .ok (.if_icmp .ne 7, 3) := by decide +kernel
theorem dX6_isSide_20 : decode cX6_isSide 20 = .ok (.iconst 1, 1) := by decide +kernel
theorem dX6_isSide_21 : decode cX6_isSide 21 = .ok (.goto 4, 3) := by decide +kernel
theorem dX6_isSide_24 : decode cX6_isSide 24 = .ok (.iconst 0, 1) := by decide +kernel
theorem dX6_isSide_25 : decode cX6_isSide 25 = .ok (.ireturn, 1) := by decide +kernel
theorem dX6_mayBe_0 : decode cX6_mayBe 0 = .ok (.iload_n 2, 1) := by decide +kernel
theorem dX6_mayBe_1 : decode cX6_mayBe 1 = .ok (.bipush 100, 2) := by decide +kernel
theorem dX6_mayBe_3 : decode cX6_mayBe 3 = .ok (.if_icmp .ge 22, 3) := by decide +kernel
theorem dX6_mayBe_6 : decode cX6_mayBe 6 = .ok (.iload_n 2, 1) := by decide +kernel
theorem dX6_mayBe_7 : decode cX6_mayBe 7 = .ok (.iconst (-1), 1) := by decide +kernel
theorem dX6_mayBe_8 : decode cX6_mayBe 8 = .ok (.if_icmp .eq 11, 3) := by decide +kernel
theorem dX6_mayBe_11 : decode cX6_mayBe 11 = .ok (.aload_n 0, 1) := by decide +kernel
theorem dX6_mayBe_12 : decode cX6_mayBe 12 = .ok (.iload_n 2, 1) := by decide +kernel
theorem dX6_mayBe_13 : decode cX6_mayBe 13 = .ok (.invokevirtual 97, 3) := by decide +kernel
theorem dX6_mayBe_16 : decode cX6_mayBe 16 = .ok (.ifCond .eq 7, 3) := by decide +kernel
theorem dX6_mayBe_19 : decode cX6_mayBe 19 = .ok (.iconst 1, 1) := by decide +kernel
theorem dX6_mayBe_20 : decode cX6_mayBe 20 = .ok (.goto 4, 3) := by decide +kernel
theorem dX6_mayBe_23 : decode cX6_mayBe 23 = .ok (.iconst 0, 1) := by decide +kernel
theorem dX6_mayBe_24 : decode cX6_mayBe 24 = .ok (.ireturn, 1) := by decide +kernel
theorem dX6_mayBe_25 : decode cX6_mayBe 25 = .ok (.iload_n 2, 1) := by decide +kernel
theorem dX6_mayBe_26 : decode cX6_mayBe 26 = .ok (.sipush 200, 3) := by decide +kernel
theorem dX6_mayBe_29 : decode cX6_mayBe 29 = .ok (.if_icmp .ge 32, 3) := by decide +kernel
theorem dX6_mayBe_32 : decode cX6_mayBe 32 = .ok (.aload_n 0, 1) := by decide +kernel
theorem dX6_mayBe_33 : decode cX6_mayBe 33 = .ok (.iload_n 2, 1) := by decide +kernel
theorem dX6_mayBe_34 : decode cX6_mayBe 34 = .ok (.bipush 100, 2) := by decide +kernel
theorem dX6_mayBe_36 : decode cX6_mayBe 36 = .ok (.isub, 1) := by decide +kernel
theorem dX6_mayBe_37 : decode cX6_mayBe 37 = .ok (.invokevirtual 101, 3) := by decide +kernel
theorem dX6_mayBe_40 : decode cX6_mayBe 40 = .ok (.ifCond .eq 19, 3) := by decide +kernel
theorem dX6_mayBe_43 : decode cX6_mayBe 43 = .ok (.aload_n 0, 1) := by decide +kernel
theorem dX6_mayBe_44 : decode cX6_mayBe 44 = .ok (.iload_n 2, 1) := by decide +kernel
theorem dX6_mayBe_45 : decode cX6_mayBe 45 = .ok (.bipush 100, 2) := by decide +kernel
theorem dX6_mayBe_47 : decode cX6_mayBe 47 = .ok (.isub, 1) := by decide +kernel
theorem dX6_mayBe_48 : decode cX6_mayBe 48 = .ok (.iload_n 1, 1) := by decide +kernel
theorem dX6_mayBe_49 : decode cX6_mayBe 49 = .ok (.invokevirtual 104, 3) := by decide +kernel
theorem dX6_mayBe_52 : decode cX6_mayBe 52 = .ok (.ifCond .eq 7, 3) := by decide +kernel
theorem dX6_mayBe_55 : decode cX6_mayBe 55 = .ok (.iconst 1, 1) := by decide +kernel
theorem dX6_mayBe_56 : decode cX6_mayBe 56 = .ok (.goto 4, 3) := by decide +kernel
theorem dX6_mayBe_59 : decode cX6_mayBe 59 = .ok (.iconst 0, 1) := by decide +kernel
theorem dX6_mayBe_60 : decode cX6_mayBe 60 = .ok (.ireturn, 1) := by decide +kernel
theorem dX6_mayBe_61 : decode cX6_mayBe 61 = .ok (.iload_n 2, 1) := by decide +kernel
theorem dX6_mayBe_62 : decode cX6_mayBe 62 = .ok (.sipush 200, 3) := by decide +kernel
theorem dX6_mayBe_65 : decode cX6_mayBe 65 = .ok (.sipush 249, 3) := by decide +kernel
theorem dX6_mayBe_68 : decode cX6_mayBe 68 = .ok (.invokestatic 84, 3) := by decide +kernel
theorem dX6_mayBe_71 : decode cX6_mayBe 71 = .ok (.ifCond .ne 16, 3) := by decide +kernel
theorem dX6_mayBe_74 : decode cX6_mayBe 74 = .ok (.iload_n 2, 1) := by decide +kernel
theorem dX6_mayBe_75 : decode cX6_mayBe 75 = .ok (.sipush 300, 3) := by decide +kernel
theorem dX6_mayBe_78 : decode cX6_mayBe 78 = .ok (.sipush 304, 3) := by decide +kernel
theorem dX6_mayBe_81 : decode cX6_mayBe 81 = .ok (.invokestatic 84, 3) := by decide +kernel
theorem dX6_mayBe_84 : decode cX6_mayBe 84 = .ok (.ifCond .eq 7, 3) := by decide +kernel
theorem dX6_mayBe_87 : decode cX6_mayBe 87 = .ok (.iconst 1, 1) := by decide +kernel
theorem dX6_mayBe_88 : decode cX6_mayBe 88 = .ok (.goto 4, 3) := by decide +kernel
theorem dX6_mayBe_91 : decode cX6_mayBe 91 = .ok (.iconst 0, 1) := by decide +kernel
theorem dX6_mayBe_92 : decode cX6_mayBe 92 = .ok (.ireturn, 1) := by decide +kernel
theorem dX6_exit_0 : decode cX6_exit 0 = .ok (.aload_n 0, 1) := by decide +kernel
theorem dX6_exit_1 : decode cX6_exit 1 = .ok (.iconst 0, 1) := by decide +kernel
theorem dX6_exit_2 : decode cX6_exit 2 = .ok (.putfield 77, 3) := by decide +kernel
theorem dX6_exit_5 : decode cX6_exit 5 = .ok (.aload_n 0, 1) := by decide +kernel
theorem dX6_exit_6 : decode cX6_exit 6 = .ok (.iload_n 1, 1) := by decide +kernel
theorem dX6_exit_7 : decode cX6_exit 7 = .ok (.invokevirtual 97, 3) := by decide +kernel
theorem dX6_exit_10 : decode cX6_exit 10 = .ok (.ifCond .eq 22, 3) := by decide +kernel
theorem dX6_exit_13 : decode cX6_exit 13 = .ok (.iload_n 2, 1) := by decide +kernel
theorem dX6_exit_14 : decode cX6_exit 14 = .ok (.iconst 0, 1) := by decide +kernel
theorem dX6_exit_15 : decode cX6_exit 15 = .ok (.bipush 7, 2) := by decide +kernel
theorem dX6_exit_17 : decode cX6_exit 17 = .ok (.invokestatic 84, 3) := by decide +kernel
theorem dX6_exit_20 : decode cX6_exit 20 = .ok (.ifCond .eq 12, 3) := by decide +kernel
theorem dX6_exit_23 : decode cX6_exit 23 = .ok (.aload_n 0, 1) := by decide +kernel
theorem dX6_exit_24 : decode cX6_exit 24 = .ok (.iload_n 1, 1) := by decide +kernel
theorem dX6_exit_25 : decode cX6_exit 25 = .ok (.iload_n 3, 1) := by decide +kernel
theorem dX6_exit_26 : decode cX6_exit 26 = .ok (.invokevirtual 108, 3) := by decide +kernel
theorem dX6_exit_29 : decode cX6_exit 29 = .ok (.ifCond .ne 5, 3) := by decide +kernel
theorem dX6_exit_32 : decode cX6_exit 32 = .ok (.iconst (-1), 1) := by decide +kernel
theorem dX6_exit_33 : decode cX6_exit 33 = .ok (.ireturn, 1) := by decide +kernel
theorem dX6_exit_34 : decode cX6_exit 34 = .ok (.aload_n 0, 1) := by decide +kernel
theorem dX6_exit_35 : decode cX6_exit 35 = .ok (.getfield 7, 3) := by decide +kernel
theorem dX6_exit_38 : decode cX6_exit 38 = .ok (.bipush 8, 2) := by decide +kernel
theorem dX6_exit_40 : decode cX6_exit 40 = .ok (.iload_n 1, 1) := by decide +kernel
theorem dX6_exit_41 : decode cX6_exit 41 = .ok (.imul, 1) := by decide +kernel
theorem dX6_exit_42 : decode cX6_exit 42 = .ok (.iload_n 2, 1) := by decide +kernel
theorem dX6_exit_43 : decode cX6_exit 43 = .ok (.iadd, 1) := by decide +kernel
theorem dX6_exit_44 : decode cX6_exit 44 = .ok (.iaload, 1) := by decide +kernel
theorem dX6_exit_45 : decode cX6_exit 45 = .ok (.istore 4, 2) := by decide +kernel
theorem dX6_exit_47 : decode cX6_exit 47 = .ok (.aload_n 0, 1) := by decide +kernel
theorem dX6_exit_48 : decode cX6_exit 48 = .ok (.getfield 7, 3) := by decide +kernel
theorem dX6_exit_51 : decode cX6_exit 51 = .ok (.bipush 8, 2) := by decide +kernel
theorem dX6_exit_53 : decode cX6_exit 53 = .ok (.iload_n 1, 1) := by decide +kernel
theorem dX6_exit_54 : decode cX6_exit 54 = .ok (.imul, 1) := by decide +kernel
theorem dX6_exit_55 : decode cX6_exit 55 = .ok (.iload_n 2, 1) := by decide +kernel
theorem dX6_exit_56 : decode cX6_exit 56 = .ok (.iadd, 1) := by decide +kernel
theorem dX6_exit_57 : decode cX6_exit 57 = .ok (.iload_n 3, 1) := by decide +kernel
theorem dX6_exit_58 : decode cX6_exit 58 = .ok (.iastore, 1) := by decide +kernel
theorem dX6_exit_59 : decode cX6_exit 59 = .ok (.iload 4, 2) := by decide +kernel
theorem dX6_exit_61 : decode cX6_exit 61 = .ok (.ireturn, 1) := by decide +kernel
theorem dX6_width_0 : decode cX6_width 0 = .ok (.aload_n 0, 1) := by decide +kernel
theorem dX6_width_1 : decode cX6_width 1 = .ok (.iconst 0, 1) := by decide +kernel
theorem dX6_width_2 : decode cX6_width 2 = .ok (.putfield 77, 3) := by decide +kernel
theorem dX6_width_5 : decode cX6_width 5 = .ok (.aload_n 0, 1) := by decide +kernel
theorem dX6_width_6 : decode cX6_width 6 = .ok (.iload_n 1, 1) := by decide +kernel
theorem dX6_width_7 : decode cX6_width 7 = .ok (.invokevirtual 97, 3) := by decide +kernel
theorem dX6_width_10 : decode cX6_width 10 = .ok (.ifCond .eq 23, 3) := by decide +kernel
theorem dX6_width_13 : decode cX6_width 13 = .ok (.iload_n 2, 1) := by decide +kernel
theorem dX6_width_14 : decode cX6_width 14 = .ok (.iconst 0, 1) := by decide +kernel
theorem dX6_width_15 : decode cX6_width 15 = .ok (.bipush 7, 2) := by decide +kernel
theorem dX6_width_17 : decode cX6_width 17 = .ok (.invokestatic 84, 3) := by decide +kernel
theorem dX6_width_20 : decode cX6_width 20 = .ok (.ifCond .eq 13, 3) := by decide +kernel
theorem dX6_width_23 : decode cX6_width 23 = .ok (.iload_n 3, 1) := by decide +kernel
theorem dX6_width_24 : decode cX6_width 24 = .ok (.iconst 1, 1) := by decide +kernel
theorem dX6_width_25 : decode cX6_width 25 = .ok (.bipush 9, 2) := by decide +kernel
theorem dX6_width_27 : decode cX6_width 27 = .ok (.invokestatic 84, 3) := by decide +kernel
theorem dX6_width_30 : decode cX6_width 30 = .ok (.ifCond .ne 5, 3) := by decide +kernel
theorem dX6_width_33 : decode cX6_width 33 = .ok (.iconst (-1), 1) := by decide +kernel
theorem dX6_width_34 : decode cX6_width 34 = .ok (.ireturn, 1) := by decide +kernel
theorem dX6_width_35 : decode cX6_width 35 = .ok (.aload_n 0, 1) := by decide +kernel
theorem dX6_width_36 : decode cX6_width 36 = .ok (.getfield 13, 3) := by decide +kernel
theorem dX6_width_39 : decode cX6_width 39 = .ok (.bipush 8, 2) := by decide +kernel
theorem dX6_width_41 : decode cX6_width 41 = .ok (.iload_n 1, 1) := by decide +kernel
theorem dX6_width_42 : decode cX6_width 42 = .ok (.imul, 1) := by decide +kernel
theorem dX6_width_43 : decode cX6_width 43 = .ok (.iload_n 2, 1) := by decide +kernel
theorem dX6_width_44 : decode cX6_width 44 = .ok (.iadd, 1) := by decide +kernel
theorem dX6_width_45 : decode cX6_width 45 = .ok (.iaload, 1) := by decide +kernel
theorem dX6_width_46 : decode cX6_width 46 = .ok (.istore 4, 2) := by decide +kernel
theorem dX6_width_48 : decode cX6_width 48 = .ok (.aload_n 0, 1) := by decide +kernel
theorem dX6_width_49 : decode cX6_width 49 = .ok (.getfield 13, 3) := by decide +kernel
theorem dX6_width_52 : decode cX6_width 52 = .ok (.bipush 8, 2) := by decide +kernel
theorem dX6_width_54 : decode cX6_width 54 = .ok (.iload_n 1, 1) := by decide +kernel
theorem dX6_width_55 : decode cX6_width 55 = .ok (.imul, 1) := by decide +kernel
theorem dX6_width_56 : decode cX6_width 56 = .ok (.iload_n 2, 1) := by decide +kernel
theorem dX6_width_57 : decode cX6_width 57 = .ok (.iadd, 1) := by decide +kernel
theorem dX6_width_58 : decode cX6_width 58 = .ok (.iload_n 3, 1) := by decide +kernel
theorem dX6_width_59 : decode cX6_width 59 = .ok (.iastore, 1) := by decide +kernel
theorem dX6_width_60 : decode cX6_width 60 = .ok (.iload 4, 2) := by decide +kernel
theorem dX6_width_62 : decode cX6_width 62 = .ok (.ireturn, 1) := by decide +kernel
theorem dX6_turn_0 : decode cX6_turn 0 = .ok (.aload_n 0, 1) := by decide +kernel
theorem dX6_turn_1 : decode cX6_turn 1 = .ok (.iconst 0, 1) := by decide +kernel
theorem dX6_turn_2 : decode cX6_turn 2 = .ok (.putfield 77, 3) := by decide +kernel
theorem dX6_turn_5 : decode cX6_turn 5 = .ok (.iload_n 1, 1) := by decide +kernel
theorem dX6_turn_6 : decode cX6_turn 6 = .ok (.iconst 0, 1) := by decide +kernel
theorem dX6_turn_7 : decode cX6_turn 7 = .ok (.iconst 4, 1) := by decide +kernel
theorem dX6_turn_8 : decode cX6_turn 8 = .ok (.invokestatic 84, 3) := by decide +kernel
theorem dX6_turn_11 : decode cX6_turn 11 = .ok (.ifCond .eq 11, 3) := by decide +kernel
theorem dX6_turn_14 : decode cX6_turn 14 = .ok (.aload_n 0, 1) := by decide +kernel
theorem dX6_turn_15 : decode cX6_turn 15 = .ok (.iload_n 2, 1) := by decide +kernel
theorem dX6_turn_16 : decode cX6_turn 16 = .ok (.invokevirtual 97, 3) := by decide +kernel
theorem dX6_turn_19 : decode cX6_turn 19 = .ok (.ifCond .ne 5, 3) := by decide +kernel
theorem dX6_turn_22 : decode cX6_turn 22 = .ok (.iconst (-1), 1) := by decide +kernel
theorem dX6_turn_23 : decode cX6_turn 23 = .ok (.ireturn, 1) := by decide +kernel
theorem dX6_turn_24 : decode cX6_turn 24 = .ok (.aload_n 0, 1) := by decide +kernel
theorem dX6_turn_25 : decode cX6_turn 25 = .ok (.getfield 65, 3) := by decide +kernel
theorem dX6_turn_28 : decode cX6_turn 28 = .ok (.iload_n 1, 1) := by decide +kernel
theorem dX6_turn_29 : decode cX6_turn 29 = .ok (.iaload, 1) := by decide +kernel
theorem dX6_turn_30 : decode cX6_turn 30 = .ok (.iconst 4, 1) := by decide +kernel
theorem dX6_turn_31 : decode cX6_turn 31 = .ok (.if_icmp .ne 6, 3) := by decide +kernel
theorem dX6_turn_34 : decode cX6_turn 34 = .ok (.bipush (-2), 2) := by decide +kernel
theorem dX6_turn_36 : decode cX6_turn 36 = .ok (.ireturn, 1) := by decide +kernel
theorem dX6_turn_37 : decode cX6_turn 37 = .ok (.aload_n 0, 1) := by decide +kernel
theorem dX6_turn_38 : decode cX6_turn 38 = .ok (.getfield 62, 3) := by decide +kernel
theorem dX6_turn_41 : decode cX6_turn 41 = .ok (.iconst 4, 1) := by decide +kernel
theorem dX6_turn_42 : decode cX6_turn 42 = .ok (.iload_n 1, 1) := by decide +kernel
theorem dX6_turn_43 : decode cX6_turn 43 = .ok (.imul, 1) := by decide +kernel
theorem dX6_turn_44 : decode cX6_turn 44 = .ok (.aload_n 0, 1) := by decide +kernel
theorem dX6_turn_45 : decode cX6_turn 45 = .ok (.getfield 65, 3) := by decide +kernel
theorem dX6_turn_48 : decode cX6_turn 48 = .ok (.iload_n 1, 1) := by decide +kernel
theorem dX6_turn_49 : decode cX6_turn 49 = .ok (.iaload, 1) := by decide +kernel
theorem dX6_turn_50 : decode cX6_turn 50 = .ok (.iadd, 1) := by decide +kernel
theorem dX6_turn_51 : decode cX6_turn 51 = .ok (.iload_n 2, 1) := by decide +kernel
theorem dX6_turn_52 : decode cX6_turn 52 = .ok (.iastore, 1) := by decide +kernel
theorem dX6_turn_53 : decode cX6_turn 53 = .ok (.aload_n 0, 1) := by decide +kernel
theorem dX6_turn_54 : decode cX6_turn 54 = .ok (.getfield 65, 3) := by decide +kernel
theorem dX6_turn_57 : decode cX6_turn 57 = .ok (.iload_n 1, 1) := by decide +kernel
theorem dX6_turn_58 : decode cX6_turn 58 = .ok (.dup2, 1) := by decide +kernel
theorem dX6_turn_59 : decode cX6_turn 59 = .ok (.iaload, 1) := by decide +kernel
theorem dX6_turn_60 : decode cX6_turn 60 = .ok (.iconst 1, 1) := by decide +kernel
theorem dX6_turn_61 : decode cX6_turn 61 = .ok (.iadd, 1) := by decide +kernel
theorem dX6_turn_62 : decode cX6_turn 62 = .ok (.iastore, 1) := by decide +kernel
theorem dX6_turn_63 : decode cX6_turn 63 = .ok (.aload_n 0, 1) := by decide +kernel
theorem dX6_turn_64 : decode cX6_turn 64 = .ok (.getfield 65, 3) := by decide +kernel
theorem dX6_turn_67 : decode cX6_turn 67 = .ok (.iload_n 1, 1) := by decide +kernel
theorem dX6_turn_68 : decode cX6_turn 68 = .ok (.iaload, 1) := by decide +kernel
theorem dX6_turn_69 : decode cX6_turn 69 = .ok (.ireturn, 1) := by decide +kernel
theorem dX6_region_0 : decode cX6_region 0 = .ok (.aload_n 0, 1) := by decide +kernel
theorem dX6_region_1 : decode cX6_region 1 = .ok (.iconst 0, 1) := by decide +kernel
theorem dX6_region_2 : decode cX6_region 2 = .ok (.putfield 77, 3) := by decide +kernel
theorem dX6_region_5 : decode cX6_region 5 = .ok (.iload_n 1, 1) := by decide +kernel
theorem dX6_region_6 : decode cX6_region 6 = .ok (.iconst 0, 1) := by decide +kernel
theorem dX6_region_7 : decode cX6_region 7 = .ok (.bipush 6, 2) := by decide +kernel
theorem dX6_region_9 : decode cX6_region 9 = .ok (.invokestatic 84, 3) := by decide +kernel
theorem dX6_region_12 : decode cX6_region 12 = .ok (.ifCond .eq 11, 3) := by decide +kernel
theorem dX6_region_15 : decode cX6_region 15 = .ok (.aload_n 0, 1) := by decide +kernel
theorem dX6_region_16 : decode cX6_region 16 = .ok (.iload_n 2, 1) := by decide +kernel
theorem dX6_region_17 : decode cX6_region 17 = .ok (.invokevirtual 97, 3) := by decide +kernel
theorem dX6_region_20 : decode cX6_region 20 = .ok (.ifCond .ne 5, 3) := by decide +kernel
theorem dX6_region_23 : decode cX6_region 23 = .ok (.iconst (-1), 1) := by decide +kernel
theorem dX6_region_24 : decode cX6_region 24 = .ok (.ireturn, 1) := by decide +kernel
theorem dX6_region_25 : decode cX6_region 25 = .ok (.aload_n 0, 1) := by decide +kernel
theorem dX6_region_26 : decode cX6_region 26 = .ok (.getfield 71, 3) := by decide +kernel
theorem dX6_region_29 : decode cX6_region 29 = .ok (.bipush 20, 2) := by decide +kernel
theorem dX6_region_31 : decode cX6_region 31 = .ok (.iload_n 1, 1) := by decide +kernel
theorem dX6_region_32 : decode cX6_region 32 = .ok (.imul, 1) := by decide +kernel
theorem dX6_region_33 : decode cX6_region 33 = .ok (.iload_n 2, 1) := by decide +kernel
theorem dX6_region_34 : decode cX6_region 34 = .ok (.iadd, 1) := by decide +kernel
theorem dX6_region_35 : decode cX6_region 35 = .ok (.iload_n 3, 1) := by decide +kernel
theorem dX6_region_36 : decode cX6_region 36 = .ok (.bastore, 1) := by decide +kernel
theorem dX6_region_37 : decode cX6_region 37 = .ok (.iconst 0, 1) := by decide +kernel
theorem dX6_region_38 : decode cX6_region 38 = .ok (.istore 4, 2) := by decide +kernel
theorem dX6_region_40 : decode cX6_region 40 = .ok (.iconst 0, 1) := by decide +kernel
theorem dX6_region_41 : decode cX6_region 41 = .ok (.istore 5, 2) := by decide +kernel
theorem dX6_region_43 : decode cX6_region 43 = .ok (.iload 5, 2) := by decide +kernel
theorem dX6_region_45 : decode cX6_region 45 = .ok (.bipush 20, 2) := by decide +kernel
theorem dX6_region_47 : decode cX6_region 47 = .ok (.if_icmp .ge 34, 3) := by decide +kernel
theorem dX6_region_50 : decode cX6_region 50 = .ok (.iload 4, 2) := by decide +kernel
theorem dX6_region_52 : decode cX6_region 52 = .ok (.aload_n 0, 1) := by decide +kernel
theorem dX6_region_53 : decode cX6_region 53 = .ok (.getfield 71, 3) := by decide +kernel
theorem dX6_region_56 : decode cX6_region 56 = .ok (.bipush 20, 2) := by decide +kernel
theorem dX6_region_58 : decode cX6_region 58 = .ok (.iload_n 1, 1) := by decide +kernel
theorem dX6_region_59 : decode cX6_region 59 = .ok (.imul, 1) := by decide +kernel
theorem dX6_region_60 : decode cX6_region 60 = .ok (.iload 5, 2) := by decide +kernel
theorem dX6_region_62 : decode cX6_region 62 = .ok (.iadd, 1) := by decide +kernel
theorem dX6_region_63 : decode cX6_region 63 = .ok (.baload, 1) := by decide +kernel
theorem dX6_region_64 : decode cX6_region 64 = .ok (.ifCond .eq 7, 3) := by decide +kernel
theorem dX6_region_67 : decode cX6_region 67 = .ok (.iconst 1, 1) := by decide +kernel
theorem dX6_region_68 : decode cX6_region 68 = .ok (.goto 4, 3) := by decide +kernel
theorem dX6_region_71 : decode cX6_region 71 = .ok (.iconst 0, 1) := by decide +kernel
theorem dX6_region_72 : decode cX6_region 72 = .ok (.iadd, 1) := by decide +kernel
theorem dX6_region_73 : decode cX6_region 73 = .ok (.istore 4, 2) := by decide +kernel
theorem dX6_region_75 : decode cX6_region 75 = .ok (.iinc 5 1, 3) := by decide +kernel
theorem dX6_region_78 : decode cX6_region 78 = .ok (.goto (-35), 3) := by decide +kernel
theorem dX6_region_81 : decode cX6_region 81 = .ok (.iload 4, 2) := by decide +kernel
theorem dX6_region_83 : decode cX6_region 83 = .ok (.ireturn, 1) := by decide +kernel
theorem dX6_lock_0 : decode cX6_lock 0 = .ok (.aload_n 0, 1) := by decide +kernel
theorem dX6_lock_1 : decode cX6_lock 1 = .ok (.iconst 0, 1) := by decide +kernel
theorem dX6_lock_2 : decode cX6_lock 2 = .ok (.putfield 77, 3) := by decide +kernel
theorem dX6_lock_5 : decode cX6_lock 5 = .ok (.aload_n 0, 1) := by decide +kernel
theorem dX6_lock_6 : decode cX6_lock 6 = .ok (.iload_n 1, 1) := by decide +kernel
theorem dX6_lock_7 : decode cX6_lock 7 = .ok (.invokevirtual 101, 3) := by decide +kernel
theorem dX6_lock_10 : decode cX6_lock 10 = .ok (.ifCond .eq 34, 3) := by decide +kernel
theorem dX6_lock_13 : decode cX6_lock 13 = .ok (.iload_n 2, 1) := by decide +kernel
theorem dX6_lock_14 : decode cX6_lock 14 = .ok (.iconst (-1), 1) := by decide +kernel
theorem dX6_lock_15 : decode cX6_lock 15 = .ok (.if_icmp .eq 20, 3) := by decide +kernel
theorem dX6_lock_18 : decode cX6_lock 18 = .ok (.aload_n 0, 1) := by decide +kernel
theorem dX6_lock_19 : decode cX6_lock 19 = .ok (.iload_n 2, 1) := by decide +kernel
theorem dX6_lock_20 : decode cX6_lock 20 = .ok (.invokevirtual 111, 3) := by decide +kernel
theorem dX6_lock_23 : decode cX6_lock 23 = .ok (.ifCond .eq 21, 3) := by decide +kernel
theorem dX6_lock_26 : decode cX6_lock 26 = .ok (.aload_n 0, 1) := by decide +kernel
theorem dX6_lock_27 : decode cX6_lock 27 = .ok (.getfield 32, 3) := by decide +kernel
theorem dX6_lock_30 : decode cX6_lock 30 = .ok (.iload_n 2, 1) := by decide +kernel
theorem dX6_lock_31 : decode cX6_lock 31 = .ok (.iaload, 1) := by decide +kernel
theorem dX6_lock_32 : decode cX6_lock 32 = .ok (.ifCond .ne 12, 3) := by decide +kernel
theorem dX6_lock_35 : decode cX6_lock 35 = .ok (.iload_n 3, 1) := by decide +kernel
theorem dX6_lock_36 : decode cX6_lock 36 = .ok (.ifCond .eq 10, 3) := by decide +kernel
theorem dX6_lock_39 : decode cX6_lock 39 = .ok (.iload_n 2, 1) := by decide +kernel
theorem dX6_lock_40 : decode cX6_lock 40 = .ok (.iconst (-1), 1) := by decide +kernel
theorem dX6_lock_41 : decode cX6_lock 41 = .ok (.if_icmp .ne 5, 3) := by decide +kernel
theorem dX6_lock_44 : decode cX6_lock 44 = .ok (.iconst (-1), 1) := by decide +kernel
theorem dX6_lock_45 : decode cX6_lock 45 = .ok (.ireturn, 1) := by decide +kernel
theorem dX6_lock_46 : decode cX6_lock 46 = .ok (.aload_n 0, 1) := by decide +kernel
theorem dX6_lock_47 : decode cX6_lock 47 = .ok (.getfield 22, 3) := by decide +kernel
theorem dX6_lock_50 : decode cX6_lock 50 = .ok (.iload_n 1, 1) := by decide +kernel
theorem dX6_lock_51 : decode cX6_lock 51 = .ok (.iload_n 2, 1) := by decide +kernel
theorem dX6_lock_52 : decode cX6_lock 52 = .ok (.iastore, 1) := by decide +kernel
theorem dX6_lock_53 : decode cX6_lock 53 = .ok (.aload_n 0, 1) := by decide +kernel
theorem dX6_lock_54 : decode cX6_lock 54 = .ok (.getfield 29, 3) := by decide +kernel
theorem dX6_lock_57 : decode cX6_lock 57 = .ok (.iload_n 1, 1) := by decide +kernel
theorem dX6_lock_58 : decode cX6_lock 58 = .ok (.iload_n 3, 1) := by decide +kernel
theorem dX6_lock_59 : decode cX6_lock 59 = .ok (.bastore, 1) := by decide +kernel
theorem dX6_lock_60 : decode cX6_lock 60 = .ok (.iconst 1, 1) := by decide +kernel
theorem dX6_lock_61 : decode cX6_lock 61 = .ok (.ireturn, 1) := by decide +kernel
theorem dX6_thing_0 : decode cX6_thing 0 = .ok (.aload_n 0, 1) := by decide +kernel
theorem dX6_thing_1 : decode cX6_thing 1 = .ok (.iconst 0, 1) := by decide +kernel
theorem dX6_thing_2 : decode cX6_thing 2 = .ok (.putfield 77, 3) := by decide +kernel
theorem dX6_thing_5 : decode cX6_thing 5 = .ok (.aload_n 0, 1) := by decide +kernel
theorem dX6_thing_6 : decode cX6_thing 6 = .ok (.iload_n 1, 1) := by decide +kernel
theorem dX6_thing_7 : decode cX6_thing 7 = .ok (.invokevirtual 97, 3) := by decide +kernel
theorem dX6_thing_10 : decode cX6_thing 10 = .ok (.ifCond .eq 22, 3) := by decide +kernel
theorem dX6_thing_13 : decode cX6_thing 13 = .ok (.iload_n 2, 1) := by decide +kernel
theorem dX6_thing_14 : decode cX6_thing 14 = .ok (.iconst 0, 1) := by decide +kernel
theorem dX6_thing_15 : decode cX6_thing 15 = .ok (.iconst 3, 1) := by decide +kernel
theorem dX6_thing_16 : decode cX6_thing 16 = .ok (.invokestatic 84, 3) := by decide +kernel
theorem dX6_thing_19 : decode cX6_thing 19 = .ok (.ifCond .eq 13, 3) := by decide +kernel
theorem dX6_thing_22 : decode cX6_thing 22 = .ok (.iload_n 3, 1) := by decide +kernel
theorem dX6_thing_23 : decode cX6_thing 23 = .ok (.iconst 1, 1) := by decide +kernel
theorem dX6_thing_24 : decode cX6_thing 24 = .ok (.bipush 9, 2) := by decide +kernel
theorem dX6_thing_26 : decode cX6_thing 26 = .ok (.invokestatic 84, 3) := by decide +kernel
theorem dX6_thing_29 : decode cX6_thing 29 = .ok (.ifCond .ne 5, 3) := by decide +kernel
theorem dX6_thing_32 : decode cX6_thing 32 = .ok (.iconst (-1), 1) := by decide +kernel
theorem dX6_thing_33 : decode cX6_thing 33 = .ok (.ireturn, 1) := by decide +kernel
theorem dX6_thing_34 : decode cX6_thing 34 = .ok (.aload_n 0, 1) := by decide +kernel
theorem dX6_thing_35 : decode cX6_thing 35 = .ok (.getfield 91, 3) := by decide +kernel
theorem dX6_thing_38 : decode cX6_thing 38 = .ok (.bipush 30, 2) := by decide +kernel
theorem dX6_thing_40 : decode cX6_thing 40 = .ok (.if_icmp .ne 6, 3) := by decide +kernel
theorem dX6_thing_43 : decode cX6_thing 43 = .ok (.bipush (-2), 2) := by decide +kernel
theorem dX6_thing_45 : decode cX6_thing 45 = .ok (.ireturn, 1) := by decide +kernel
theorem dX6_thing_46 : decode cX6_thing 46 = .ok (.aload_n 0, 1) := by decide +kernel
theorem dX6_thing_47 : decode cX6_thing 47 = .ok (.getfield 32, 3) := by decide +kernel
theorem dX6_thing_50 : decode cX6_thing 50 = .ok (.aload_n 0, 1) := by decide +kernel
theorem dX6_thing_51 : decode cX6_thing 51 = .ok (.getfield 91, 3) := by decide +kernel
theorem dX6_thing_54 : decode cX6_thing 54 = .ok (.iload_n 2, 1) := by decide +kernel
theorem dX6_thing_55 : decode cX6_thing 55 = .ok (.iastore, 1) := by decide +kernel
theorem dX6_thing_56 : decode cX6_thing 56 = .ok (.aload_n 0, 1) := by decide +kernel
theorem dX6_thing_57 : decode cX6_thing 57 = .ok (.getfield 35, 3) := by decide +kernel
theorem dX6_thing_60 : decode cX6_thing 60 = .ok (.aload_n 0, 1) := by decide +kernel
theorem dX6_thing_61 : decode cX6_thing 61 = .ok (.getfield 91, 3) := by decide +kernel
theorem dX6_thing_64 : decode cX6_thing 64 = .ok (.iload_n 3, 1) := by decide +kernel
theorem dX6_thing_65 : decode cX6_thing 65 = .ok (.iastore, 1) := by decide +kernel
theorem dX6_thing_66 : decode cX6_thing 66 = .ok (.aload_n 0, 1) := by decide +kernel
theorem dX6_thing_67 : decode cX6_thing 67 = .ok (.getfield 38, 3) := by decide +kernel
theorem dX6_thing_70 : decode cX6_thing 70 = .ok (.aload_n 0, 1) := by decide +kernel
theorem dX6_thing_71 : decode cX6_thing 71 = .ok (.getfield 91, 3) := by decide +kernel
theorem dX6_thing_74 : decode cX6_thing 74 = .ok (.iload_n 1, 1) := by decide +kernel
theorem dX6_thing_75 : decode cX6_thing 75 = .ok (.iastore, 1) := by decide +kernel
theorem dX6_thing_76 : decode cX6_thing 76 = .ok (.aload_n 0, 1) := by decide +kernel
theorem dX6_thing_77 : decode cX6_thing 77 = .ok (.getfield 41, 3) := by decide +kernel
theorem dX6_thing_80 : decode cX6_thing 80 = .ok (.aload_n 0, 1) := by decide +kernel
theorem dX6_thing_81 : decode cX6_thing 81 = .ok (.getfield 91, 3) := by decide +kernel
theorem dX6_thing_84 : decode cX6_thing 84 = .ok (.iconst (-1), 1) := by decide +kernel
theorem dX6_thing_85 : decode cX6_thing 85 = .ok (.iastore, 1) := by decide +kernel
theorem dX6_thing_86 : decode cX6_thing 86 = .ok (.aload_n 0, 1) := by decide +kernel
theorem dX6_thing_87 : decode cX6_thing 87 = .ok (.dup, 1) := by decide +kernel
theorem dX6_thing_88 : decode cX6_thing 88 = .ok (.getfield 91, 3) := by decide +kernel
theorem dX6_thing_91 : decode cX6_thing 91 = .ok (.iconst 1, 1) := by decide +kernel
theorem dX6_thing_92 : decode cX6_thing 92 = .ok (.iadd, 1) := by decide +kernel
theorem dX6_thing_93 : decode cX6_thing 93 = .ok (.putfield 91, 3) := by decide +kernel
theorem dX6_thing_96 : decode cX6_thing 96 = .ok (.aload_n 0, 1) := by decide +kernel
theorem dX6_thing_97 : decode cX6_thing 97 = .ok (.getfield 91, 3) := by decide +kernel
theorem dX6_thing_100 : decode cX6_thing 100 = .ok (.iconst 1, 1) := by decide +kernel
theorem dX6_thing_101 : decode cX6_thing 101 = .ok (.isub, 1) := by decide +kernel
theorem dX6_thing_102 : decode cX6_thing 102 = .ok (.ireturn, 1) := by decide +kernel
theorem dX6_floats_0 : decode cX6_floats 0 = .ok (.aload_n 0, 1) := by decide +kernel
theorem dX6_floats_1 : decode cX6_floats 1 = .ok (.iconst 0, 1) := by decide +kernel
theorem dX6_floats_2 : decode cX6_floats 2 = .ok (.putfield 77, 3) := by decide +kernel
theorem dX6_floats_5 : decode cX6_floats 5 = .ok (.aload_n 0, 1) := by decide +kernel
theorem dX6_floats_6 : decode cX6_floats 6 = .ok (.iload_n 1, 1) := by decide +kernel
theorem dX6_floats_7 : decode cX6_floats 7 = .ok (.invokevirtual 111, 3) := by decide +kernel
theorem dX6_floats_10 : decode cX6_floats 10 = .ok (.ifCond .eq 23, 3) := by decide +kernel
theorem dX6_floats_13 : decode cX6_floats 13 = .ok (.aload_n 0, 1) := by decide +kernel
theorem dX6_floats_14 : decode cX6_floats 14 = .ok (.getfield 32, 3) := by decide +kernel
theorem dX6_floats_17 : decode cX6_floats 17 = .ok (.iload_n 1, 1) := by decide +kernel
theorem dX6_floats_18 : decode cX6_floats 18 = .ok (.iaload, 1) := by decide +kernel
theorem dX6_floats_19 : decode cX6_floats 19 = .ok (.iconst 1, 1) := by decide +kernel
theorem dX6_floats_20 : decode cX6_floats 20 = .ok (.if_icmp .ne 13, 3) := by decide +kernel
theorem dX6_floats_23 : decode cX6_floats 23 = .ok (.iload_n 2, 1) := by decide +kernel
theorem dX6_floats_24 : decode cX6_floats 24 = .ok (.iconst 0, 1) := by decide +kernel
theorem dX6_floats_25 : decode cX6_floats 25 = .ok (.bipush 6, 2) := by decide +kernel
theorem dX6_floats_27 : decode cX6_floats 27 = .ok (.invokestatic 84, 3) := by decide +kernel
theorem dX6_floats_30 : decode cX6_floats 30 = .ok (.ifCond .ne 5, 3) := by decide +kernel
theorem dX6_floats_33 : decode cX6_floats 33 = .ok (.iconst (-1), 1) := by decide +kernel
theorem dX6_floats_34 : decode cX6_floats 34 = .ok (.ireturn, 1) := by decide +kernel
theorem dX6_floats_35 : decode cX6_floats 35 = .ok (.aload_n 0, 1) := by decide +kernel
theorem dX6_floats_36 : decode cX6_floats 36 = .ok (.getfield 41, 3) := by decide +kernel
theorem dX6_floats_39 : decode cX6_floats 39 = .ok (.iload_n 1, 1) := by decide +kernel
theorem dX6_floats_40 : decode cX6_floats 40 = .ok (.iload_n 2, 1) := by decide +kernel
theorem dX6_floats_41 : decode cX6_floats 41 = .ok (.iastore, 1) := by decide +kernel
theorem dX6_floats_42 : decode cX6_floats 42 = .ok (.iconst 1, 1) := by decide +kernel
theorem dX6_floats_43 : decode cX6_floats 43 = .ok (.ireturn, 1) := by decide +kernel
theorem dX6_being_0 : decode cX6_being 0 = .ok (.aload_n 0, 1) := by decide +kernel
theorem dX6_being_1 : decode cX6_being 1 = .ok (.iconst 0, 1) := by decide +kernel
theorem dX6_being_2 : decode cX6_being 2 = .ok (.putfield 77, 3) := by decide +kernel
theorem dX6_being_5 : decode cX6_being 5 = .ok (.aload_n 0, 1) := by decide +kernel
theorem dX6_being_6 : decode cX6_being 6 = .ok (.iload_n 1, 1) := by decide +kernel
theorem dX6_being_7 : decode cX6_being 7 = .ok (.invokevirtual 97, 3) := by decide +kernel
theorem dX6_being_10 : decode cX6_being 10 = .ok (.ifCond .ne 5, 3) := by decide +kernel
theorem dX6_being_13 : decode cX6_being 13 = .ok (.iconst (-1), 1) := by decide +kernel
theorem dX6_being_14 : decode cX6_being 14 = .ok (.ireturn, 1) := by decide +kernel
theorem dX6_being_15 : decode cX6_being 15 = .ok (.aload_n 0, 1) := by decide +kernel
theorem dX6_being_16 : decode cX6_being 16 = .ok (.getfield 94, 3) := by decide +kernel
theorem dX6_being_19 : decode cX6_being 19 = .ok (.bipush 6, 2) := by decide +kernel
theorem dX6_being_21 : decode cX6_being 21 = .ok (.if_icmp .ne 6, 3) := by decide +kernel
theorem dX6_being_24 : decode cX6_being 24 = .ok (.bipush (-2), 2) := by decide +kernel
theorem dX6_being_26 : decode cX6_being 26 = .ok (.ireturn, 1) := by decide +kernel
theorem dX6_being_27 : decode cX6_being 27 = .ok (.aload_n 0, 1) := by decide +kernel
theorem dX6_being_28 : decode cX6_being 28 = .ok (.getfield 47, 3) := by decide +kernel
theorem dX6_being_31 : decode cX6_being 31 = .ok (.aload_n 0, 1) := by decide +kernel
theorem dX6_being_32 : decode cX6_being 32 = .ok (.getfield 94, 3) := by decide +kernel
theorem dX6_being_35 : decode cX6_being 35 = .ok (.iload_n 1, 1) := by decide +kernel
theorem dX6_being_36 : decode cX6_being 36 = .ok (.iastore, 1) := by decide +kernel
theorem dX6_being_37 : decode cX6_being 37 = .ok (.aload_n 0, 1) := by decide +kernel
theorem dX6_being_38 : decode cX6_being 38 = .ok (.getfield 50, 3) := by decide +kernel
theorem dX6_being_41 : decode cX6_being 41 = .ok (.aload_n 0, 1) := by decide +kernel
theorem dX6_being_42 : decode cX6_being 42 = .ok (.getfield 94, 3) := by decide +kernel
theorem dX6_being_45 : decode cX6_being 45 = .ok (.iconst (-1), 1) := by decide +kernel
theorem dX6_being_46 : decode cX6_being 46 = .ok (.iastore, 1) := by decide +kernel
theorem dX6_being_47 : decode cX6_being 47 = .ok (.aload_n 0, 1) := by decide +kernel
