theorem dX0_init_0 : decode cX0_init 0 = .ok (.aload_n 0, 1) := by decide +kernel
theorem dX0_init_1 : decode cX0_init 1 = .ok (.invokespecial 3, 3) := by decide +kernel
theorem dX0_init_4 : decode cX0_init 4 = .ok (.aload_n 0, 1) := by decide +kernel
theorem dX0_init_5 : decode cX0_init 5 = .ok (.bipush 8, 2) := by decide +kernel
theorem dX0_init_7 : decode cX0_init 7 = .ok (.newarray .int, 2) := by decide +kernel
theorem dX0_init_9 : decode cX0_init 9 = .ok (.putfield 9, 3) := by decide +kernel
theorem dX0_init_12 : decode cX0_init 12 = .ok (.aload_n 0, 1) := by decide +kernel
theorem dX0_init_13 : decode cX0_init 13 = .ok (.iconst (-1), 1) := by decide +kernel
theorem dX0_init_14 : decode cX0_init 14 = .ok (.putfield 15, 3) := by decide +kernel
theorem dX0_init_17 : decode cX0_init 17 = .ok (.aload_n 0, 1) := by decide +kernel
theorem dX0_init_18 : decode cX0_init 18 = .ok (.iload_n 1, 1) := by decide +kernel
theorem dX0_init_19 : decode cX0_init 19 = .ok (.putfield 19, 3) := by decide +kernel
theorem dX0_init_22 : decode cX0_init 22 = .ok (.aload_n 0, 1) := by decide +kernel
theorem dX0_init_23 : decode cX0_init 23 = .ok (.iload_n 2, 1) := by decide +kernel
theorem dX0_init_24 : decode cX0_init 24 = .ok (.putfield 22, 3) := by decide +kernel
theorem dX0_init_27 : decode cX0_init 27 = .ok (.return_, 1) := by decide +kernel
theorem dX0_hear_0 : decode cX0_hear 0 = .ok (.aload_n 0, 1) := by decide +kernel
theorem dX0_hear_1 : decode cX0_hear 1 = .ok (.getfield 9, 3) := by decide +kernel
theorem dX0_hear_4 : decode cX0_hear 4 = .ok (.iconst 0, 1) := by decide +kernel
theorem dX0_hear_5 : decode cX0_hear 5 = .ok (.aload_n 0, 1) := by decide +kernel
theorem dX0_hear_6 : decode cX0_hear 6 = .ok (.getfield 9, 3) := by decide +kernel
theorem dX0_hear_9 : decode cX0_hear 9 = .ok (.iconst 1, 1) := by decide +kernel
theorem dX0_hear_10 : decode cX0_hear 10 = .ok (.bipush 7, 2) := by decide +kernel
theorem dX0_hear_12 : decode cX0_hear 12 = .ok (.invokestatic 25, 3) := by decide +kernel
theorem dX0_hear_15 : decode cX0_hear 15 = .ok (.aload_n 0, 1) := by decide +kernel
theorem dX0_hear_16 : decode cX0_hear 16 = .ok (.getfield 9, 3) := by decide +kernel
theorem dX0_hear_19 : decode cX0_hear 19 = .ok (.iconst 0, 1) := by decide +kernel
theorem dX0_hear_20 : decode cX0_hear 20 = .ok (.iload_n 1, 1) := by decide +kernel
theorem dX0_hear_21 : decode cX0_hear 21 = .ok (.iastore, 1) := by decide +kernel
theorem dX0_hear_22 : decode cX0_hear 22 = .ok (.aload_n 0, 1) := by decide +kernel
theorem dX0_hear_23 : decode cX0_hear 23 = .ok (.aload_n 0, 1) := by decide +kernel
theorem dX0_hear_24 : decode cX0_hear 24 = .ok (.getfield 31, 3) := by decide +kernel
theorem dX0_hear_27 : decode cX0_hear 27 = .ok (.bipush 8, 2) := by decide +kernel
theorem dX0_hear_29 : decode cX0_hear 29 = .ok (.if_icmp .ge 12, 3) := by decide +kernel
theorem dX0_hear_32 : decode cX0_hear 32 = .ok (.aload_n 0, 1) := by decide +kernel
theorem dX0_hear_33 : decode cX0_hear 33 = .ok (.getfield 31, 3) := by decide +kernel
theorem dX0_hear_36 : decode cX0_hear 36 = .ok (.iconst 1, 1) := by decide +kernel
theorem dX0_hear_37 : decode cX0_hear 37 = .ok (.iadd, 1) := by decide +kernel
theorem dX0_hear_38 : decode cX0_hear 38 = .ok (.goto 5, 3) := by decide +kernel
theorem dX0_hear_41 : decode cX0_hear 41 = .ok (.bipush 8, 2) := by decide +kernel
theorem dX0_hear_43 : decode cX0_hear 43 = .ok (.putfield 31, 3) := by decide +kernel
theorem dX0_hear_46 : decode cX0_hear 46 = .ok (.return_, 1) := by decide +kernel
theorem dX1_init_0 : decode cX1_init 0 = .ok (.aload_n 0, 1) := by decide +kernel
theorem dX1_init_1 : decode cX1_init 1 = .ok (.invokespecial 3, 3) := by decide +kernel
theorem dX1_init_4 : decode cX1_init 4 = .ok (.aload_n 0, 1) := by decide +kernel
theorem dX1_init_5 : decode cX1_init 5 = .ok (.iload_n 1, 1) := by decide +kernel
theorem dX1_init_6 : decode cX1_init 6 = .ok (.putfield 9, 3) := by decide +kernel
theorem dX1_init_9 : decode cX1_init 9 = .ok (.aload_n 0, 1) := by decide +kernel
theorem dX1_init_10 : decode cX1_init 10 = .ok (.iload_n 2, 1) := by decide +kernel
theorem dX1_init_11 : decode cX1_init 11 = .ok (.putfield 15, 3) := by decide +kernel
theorem dX1_init_14 : decode cX1_init 14 = .ok (.return_, 1) := by decide +kernel
theorem dX1_hasSide_0 : decode cX1_hasSide 0 = .ok (.iload_n 1, 1) := by decide +kernel
theorem dX1_hasSide_1 : decode cX1_hasSide 1 = .ok (.aload_n 0, 1) := by decide +kernel
theorem dX1_hasSide_2 : decode cX1_hasSide 2 = .ok (.getfield 9, 3) := by decide +kernel
theorem dX1_hasSide_5 : decode cX1_hasSide 5 = .ok (.if_icmp .eq 11, 3) := by decide +kernel
theorem dX1_hasSide_8 : decode cX1_hasSide 8 = .ok (.iload_n 1, 1) := by decide +kernel
theorem dX1_hasSide_9 : decode cX1_hasSide 9 = .ok (.aload_n 0, 1) := by decide +kernel
theorem dX1_hasSide_10 : decode cX1_hasSide 10 = .ok (.getfield 15, 3) := by decide +kernel
theorem dX1_hasSide_13 : decode cX1_hasSide 13 = .ok (.if_icmp .ne 7, 3) := by decide +kernel
theorem dX1_hasSide_16 : decode cX1_hasSide 16 = .ok (.iconst 1, 1) := by decide +kernel
theorem dX1_hasSide_17 : decode cX1_hasSide 17 = .ok (.goto 4, 3) := by decide +kernel
theorem dX1_hasSide_20 : decode cX1_hasSide 20 = .ok (.iconst 0, 1) := by decide +kernel
theorem dX1_hasSide_21 : decode cX1_hasSide 21 = .ok (.ireturn, 1) := by decide +kernel
theorem dX1_sideFrom_0 : decode cX1_sideFrom 0 = .ok (.iload_n 1, 1) := by decide +kernel
theorem dX1_sideFrom_1 : decode cX1_sideFrom 1 = .ok (.aload_n 0, 1) := by decide +kernel
theorem dX1_sideFrom_2 : decode cX1_sideFrom 2 = .ok (.getfield 9, 3) := by decide +kernel
theorem dX1_sideFrom_5 : decode cX1_sideFrom 5 = .ok (.if_icmp .ne 10, 3) := by decide +kernel
theorem dX1_sideFrom_8 : decode cX1_sideFrom 8 = .ok (.aload_n 0, 1) := by decide +kernel
theorem dX1_sideFrom_9 : decode cX1_sideFrom 9 = .ok (.getfield 15, 3) := by decide +kernel
theorem dX1_sideFrom_12 : decode cX1_sideFrom 12 = .ok (.goto 7, 3) := by decide +kernel
theorem dX1_sideFrom_15 : decode cX1_sideFrom 15 = .ok (.aload_n 0, 1) := by decide +kernel
theorem dX1_sideFrom_16 : decode cX1_sideFrom 16 = .ok (.getfield 9, 3) := by decide +kernel
theorem dX1_sideFrom_19 : decode cX1_sideFrom 19 = .ok (.ireturn, 1) := by decide +kernel
theorem dX1_obstacle_0 : decode cX1_obstacle 0 = .ok (.aload_n 0, 1) := by decide +kernel
theorem dX1_obstacle_1 : decode cX1_obstacle 1 = .ok (.getfield 18, 3) := by decide +kernel
theorem dX1_obstacle_4 : decode cX1_obstacle 4 = .ok (.ifCond .ne 18, 3) := by decide +kernel
theorem dX1_obstacle_7 : decode cX1_obstacle 7 = .ok (.aload_n 0, 1) := by decide +kernel
theorem dX1_obstacle_8 : decode cX1_obstacle 8 = .ok (.getfield 22, 3) := by decide +kernel
theorem dX1_obstacle_11 : decode cX1_obstacle 11 = .ok (.ifCond .eq 8, 3) := by decide +kernel
theorem dX1_obstacle_14 : decode cX1_obstacle 14 = .ok (.bipush 27, 2) := by decide +kernel
theorem dX1_obstacle_16 : decode cX1_obstacle 16 = .ok (.goto 5, 3) := by decide +kernel
theorem dX1_obstacle_19 : decode cX1_obstacle 19 = .ok (.bipush 26, 2) := by decide +kernel
theorem dX1_obstacle_21 : decode cX1_obstacle 21 = .ok (.ireturn, 1) := by decide +kernel
theorem dX1_obstacle_22 : decode cX1_obstacle 22 = .ok (.aload_n 0, 1) := by decide +kernel
theorem dX1_obstacle_23 : decode cX1_obstacle 23 = .ok (.getfield 15, 3) := by decide +kernel
theorem dX1_obstacle_26 : decode cX1_obstacle 26 = .ok (.iconst (-1), 1) := by decide +kernel
theorem dX1_obstacle_27 : decode cX1_obstacle 27 = .ok (.if_icmp .ne 8, 3) := by decide +kernel
theorem dX1_obstacle_30 : decode cX1_obstacle 30 = .ok (.bipush 28, 2) := by decide +kernel
theorem dX1_obstacle_32 : decode cX1_obstacle 32 = .ok (.goto 4, 3) := by decide +kernel
theorem dX1_obstacle_35 : decode cX1_obstacle 35 = .ok (.iconst 0, 1) := by decide +kernel
theorem dX1_obstacle_36 : decode cX1_obstacle 36 = .ok (.ireturn, 1) := by decide +kernel
theorem dX2_init_0 : decode cX2_init 0 = .ok (.aload_n 0, 1) := by decide +kernel
theorem dX2_init_1 : decode cX2_init 1 = .ok (.invokespecial 3, 3) := by decide +kernel
theorem dX2_init_4 : decode cX2_init 4 = .ok (.aload_n 0, 1) := by decide +kernel
theorem dX2_init_5 : decode cX2_init 5 = .ok (.iconst 4, 1) := by decide +kernel
theorem dX2_init_6 : decode cX2_init 6 = .ok (.newarray .int, 2) := by decide +kernel
theorem dX2_init_8 : decode cX2_init 8 = .ok (.putfield 9, 3) := by decide +kernel
theorem dX2_init_11 : decode cX2_init 11 = .ok (.return_, 1) := by decide +kernel
theorem dX2_append_0 : decode cX2_append 0 = .ok (.aload_n 0, 1) := by decide +kernel
theorem dX2_append_1 : decode cX2_append 1 = .ok (.getfield 15, 3) := by decide +kernel
theorem dX2_append_4 : decode cX2_append 4 = .ok (.iconst 4, 1) := by decide +kernel
theorem dX2_append_5 : decode cX2_append 5 = .ok (.if_icmp .lt 5, 3) := by decide +kernel
theorem dX2_append_8 : decode cX2_append 8 = .ok (.iconst 0, 1) := by decide +kernel
theorem dX2_append_9 : decode cX2_append 9 = .ok (.ireturn, 1) := by decide +kernel
theorem dX2_append_10 : decode cX2_append 10 = .ok (.aload_n 0, 1) := by decide +kernel
theorem dX2_append_11 : decode cX2_append 11 = .ok (.getfield 9, 3) := by decide +kernel
theorem dX2_append_14 : decode cX2_append 14 = .ok (.aload_n 0, 1) := by decide +kernel
theorem dX2_append_15 : decode cX2_append 15 = .ok (.getfield 15, 3) := by decide +kernel
theorem dX2_append_18 : decode cX2_append 18 = .ok (.iload_n 1, 1) := by decide +kernel
theorem dX2_append_19 : decode cX2_append 19 = .ok (.iastore, 1) := by decide +kernel
theorem dX2_append_20 : decode cX2_append 20 = .ok (.aload_n 0, 1) := by decide +kernel
theorem dX2_append_21 : decode cX2_append 21 = .ok (.dup, 1) := by decide +kernel
theorem dX2_append_22 : decode cX2_append 22 = .ok (.getfield 15, 3) := by decide +kernel
theorem dX2_append_25 : decode cX2_append 25 = .ok (.iconst 1, 1) := by decide +kernel
theorem dX2_append_26 : decode cX2_append 26 = .ok (.iadd, 1) := by decide +kernel
theorem dX2_append_27 : decode cX2_append 27 = .ok (.putfield 15, 3) := by decide +kernel
theorem dX2_append_30 : decode cX2_append 30 = .ok (.iconst 1, 1) := by decide +kernel
theorem dX2_append_31 : decode cX2_append 31 = .ok (.ireturn, 1) := by decide +kernel
theorem dX2_current_0 : decode cX2_current 0 = .ok (.aload_n 0, 1) := by decide +kernel
theorem dX2_current_1 : decode cX2_current 1 = .ok (.getfield 19, 3) := by decide +kernel
theorem dX2_current_4 : decode cX2_current 4 = .ok (.aload_n 0, 1) := by decide +kernel
theorem dX2_current_5 : decode cX2_current 5 = .ok (.getfield 15, 3) := by decide +kernel
theorem dX2_current_8 : decode cX2_current 8 = .ok (.if_icmp .ge 15, 3) := by decide +kernel
theorem dX2_current_11 : decode cX2_current 11 = .ok (.aload_n 0, 1) := by decide +kernel
theorem dX2_current_12 : decode cX2_current 12 = .ok (.getfield 9, 3) := by decide +kernel
theorem dX2_current_15 : decode cX2_current 15 = .ok (.aload_n 0, 1) := by decide +kernel
theorem dX2_current_16 : decode cX2_current 16 = .ok (.getfield 19, 3) := by decide +kernel
theorem dX2_current_19 : decode cX2_current 19 = .ok (.iaload, 1) := by decide +kernel
theorem dX2_current_20 : decode cX2_current 20 = .ok (.goto 4, 3) := by decide +kernel
theorem dX2_current_23 : decode cX2_current 23 = .ok (.iconst (-1), 1) := by decide +kernel
theorem dX2_current_24 : decode cX2_current 24 = .ok (.ireturn, 1) := by decide +kernel
theorem dX2_advance_0 : decode cX2_advance 0 = .ok (.aload_n 0, 1) := by decide +kernel
theorem dX2_advance_1 : decode cX2_advance 1 = .ok (.aload_n 0, 1) := by decide +kernel
theorem dX2_advance_2 : decode cX2_advance 2 = .ok (.getfield 19, 3) := by decide +kernel
theorem dX2_advance_5 : decode cX2_advance 5 = .ok (.iconst 1, 1) := by decide +kernel
theorem dX2_advance_6 : decode cX2_advance 6 = .ok (.iadd, 1) := by decide +kernel
theorem dX2_advance_7 : decode cX2_advance 7 = .ok (.aload_n 0, 1) := by decide +kernel
theorem dX2_advance_8 : decode cX2_advance 8 = .ok (.getfield 15, 3) := by decide +kernel
theorem dX2_advance_11 : decode cX2_advance 11 = .ok (.if_icmp .ge 12, 3) := by decide +kernel
theorem dX2_advance_14 : decode cX2_advance 14 = .ok (.aload_n 0, 1) := by decide +kernel
theorem dX2_advance_15 : decode cX2_advance 15 = .ok (.getfield 19, 3) := by decide +kernel
theorem dX2_advance_18 : decode cX2_advance 18 = .ok (.iconst 1, 1) := by decide +kernel
theorem dX2_advance_19 : decode cX2_advance 19 = .ok (.iadd, 1) := by decide +kernel
theorem dX2_advance_20 : decode cX2_advance 20 = .ok (.goto 4, 3) := by decide +kernel
theorem dX2_advance_23 : decode cX2_advance 23 = .ok (.iconst 0, 1) := by decide +kernel
theorem dX2_advance_24 : decode cX2_advance 24 = .ok (.putfield 19, 3) := by decide +kernel
theorem dX2_advance_27 : decode cX2_advance 27 = .ok (.return_, 1) := by decide +kernel
theorem dX3_init_0 : decode cX3_init 0 = .ok (.aload_n 0, 1) := by decide +kernel
theorem dX3_init_1 : decode cX3_init 1 = .ok (.invokespecial 3, 3) := by decide +kernel
theorem dX3_init_4 : decode cX3_init 4 = .ok (.aload_n 0, 1) := by decide +kernel
theorem dX3_init_5 : decode cX3_init 5 = .ok (.bipush 20, 2) := by decide +kernel
theorem dX3_init_7 : decode cX3_init 7 = .ok (.newarray .int, 2) := by decide +kernel
theorem dX3_init_9 : decode cX3_init 9 = .ok (.putfield 9, 3) := by decide +kernel
theorem dX3_init_12 : decode cX3_init 12 = .ok (.aload_n 0, 1) := by decide +kernel
theorem dX3_init_13 : decode cX3_init 13 = .ok (.bipush 20, 2) := by decide +kernel
theorem dX3_init_15 : decode cX3_init 15 = .ok (.newarray .int, 2) := by decide +kernel
theorem dX3_init_17 : decode cX3_init 17 = .ok (.putfield 15, 3) := by decide +kernel
theorem dX3_init_20 : decode cX3_init 20 = .ok (.aload_n 0, 1) := by decide +kernel
theorem dX3_init_21 : decode cX3_init 21 = .ok (.bipush 20, 2) := by decide +kernel
theorem dX3_init_23 : decode cX3_init 23 = .ok (.newarray .int, 2) := by decide +kernel
theorem dX3_init_25 : decode cX3_init 25 = .ok (.putfield 18, 3) := by decide +kernel
theorem dX3_init_28 : decode cX3_init 28 = .ok (.aload_n 0, 1) := by decide +kernel
theorem dX3_init_29 : decode cX3_init 29 = .ok (.bipush 20, 2) := by decide +kernel
theorem dX3_init_31 : decode cX3_init 31 = .ok (.newarray .int, 2) := by decide +kernel
theorem dX3_init_33 : decode cX3_init 33 = .ok (.putfield 21, 3) := by decide +kernel
theorem dX3_init_36 : decode cX3_init 36 = .ok (.return_, 1) := by decide +kernel
theorem dX3_begin_0 : decode cX3_begin 0 = .ok (.aload_n 0, 1) := by decide +kernel
theorem dX3_begin_1 : decode cX3_begin 1 = .ok (.getfield 15, 3) := by decide +kernel
theorem dX3_begin_4 : decode cX3_begin 4 = .ok (.iconst (-1), 1) := by decide +kernel
theorem dX3_begin_5 : decode cX3_begin 5 = .ok (.invokestatic 24, 3) := by decide +kernel
theorem dX3_begin_8 : decode cX3_begin 8 = .ok (.aload_n 0, 1) := by decide +kernel
theorem dX3_begin_9 : decode cX3_begin 9 = .ok (.iconst 0, 1) := by decide +kernel
theorem dX3_begin_10 : decode cX3_begin 10 = .ok (.putfield 30, 3) := by decide +kernel
theorem dX3_begin_13 : decode cX3_begin 13 = .ok (.iload_n 1, 1) := by decide +kernel
theorem dX3_begin_14 : decode cX3_begin 14 = .ok (.invokestatic 34, 3) := by decide +kernel
theorem dX3_begin_17 : decode cX3_begin 17 = .ok (.ifCond .eq 22, 3) := by decide +kernel
theorem dX3_begin_20 : decode cX3_begin 20 = .ok (.aload_n 0, 1) := by decide +kernel
theorem dX3_begin_21 : decode cX3_begin 21 = .ok (.getfield 9, 3) := by decide +kernel
theorem dX3_begin_24 : decode cX3_begin 24 = .ok (.iconst 0, 1) := by decide +kernel
theorem dX3_begin_25 : decode cX3_begin 25 = .ok (.iload_n 1, 1) := by decide +kernel
theorem dX3_begin_26 : decode cX3_begin 26 = .ok (.iastore, 1) := by decide +kernel
theorem dX3_begin_27 : decode cX3_begin 27 = .ok (.aload_n 0, 1) := by decide +kernel
theorem dX3_begin_28 : decode cX3_begin 28 = .ok (.getfield 15, 3) := by decide +kernel
theorem dX3_begin_31 : decode cX3_begin 31 = .ok (.iload_n 1, 1) := by decide +kernel
theorem dX3_begin_32 : decode cX3_begin 32 = .ok (.iconst 0, 1) := by decide +kernel
theorem dX3_begin_33 : decode cX3_begin 33 = .ok (.iastore, 1) := by decide +kernel
theorem dX3_begin_34 : decode cX3_begin 34 = .ok (.aload_n 0, 1) := by decide +kernel
theorem dX3_begin_35 : decode cX3_begin 35 = .ok (.iconst 1, 1) := by decide +kernel
theorem dX3_begin_36 : decode cX3_begin 36 = .ok (.putfield 30, 3) := by decide +kernel
theorem dX3_begin_39 : decode cX3_begin 39 = .ok (.return_, 1) := by decide +kernel
theorem dX3_reach_0 : decode cX3_reach 0 = .ok (.iload_n 1, 1) := by decide +kernel
theorem dX3_reach_1 : decode cX3_reach 1 = .ok (.invokestatic 34, 3) := by decide +kernel
theorem dX3_reach_4 : decode cX3_reach 4 = .ok (.ifCond .eq 29, 3) := by decide +kernel
theorem dX3_reach_7 : decode cX3_reach 7 = .ok (.iload_n 2, 1) := by decide +kernel
theorem dX3_reach_8 : decode cX3_reach 8 = .ok (.invokestatic 34, 3) := by decide +kernel
theorem dX3_reach_11 : decode cX3_reach 11 = .ok (.ifCond .eq 22, 3) := by decide +kernel
theorem dX3_reach_14 : decode cX3_reach 14 = .ok (.aload_n 0, 1) := by decide +kernel
theorem dX3_reach_15 : decode cX3_reach 15 = .ok (.getfield 15, 3) := by decide +kernel
theorem dX3_reach_18 : decode cX3_reach 18 = .ok (.iload_n 1, 1) := by decide +kernel
theorem dX3_reach_19 : decode cX3_reach 19 = .ok (.iaload, 1) := by decide +kernel
theorem dX3_reach_20 : decode cX3_reach 20 = .ok (.iconst (-1), 1) := by decide +kernel
theorem dX3_reach_21 : decode cX3_reach 21 = .ok (.if_icmp .ne 12, 3) := by decide +kernel
theorem dX3_reach_24 : decode cX3_reach 24 = .ok (.aload_n 0, 1) := by decide +kernel
theorem dX3_reach_25 : decode cX3_reach 25 = .ok (.getfield 30, 3) := by decide +kernel
theorem dX3_reach_28 : decode cX3_reach 28 = .ok (.bipush 20, 2) := by decide +kernel
theorem dX3_reach_30 : decode cX3_reach 30 = .ok (.if_icmp .lt 4, 3) := by decide +kernel
theorem dX3_reach_33 : decode cX3_reach 33 = .ok (.return_, 1) := by decide +kernel
theorem dX3_reach_34 : decode cX3_reach 34 = .ok (.aload_n 0, 1) := by decide +kernel
theorem dX3_reach_35 : decode cX3_reach 35 = .ok (.getfield 15, 3) := by decide +kernel
theorem dX3_reach_38 : decode cX3_reach 38 = .ok (.iload_n 1, 1) := by decide +kernel
theorem dX3_reach_39 : decode cX3_reach 39 = .ok (.aload_n 0, 1) := by decide +kernel
theorem dX3_reach_40 : decode cX3_reach 40 = .ok (.getfield 15, 3) := by decide +kernel
theorem dX3_reach_43 : decode cX3_reach 43 = .ok (.iload_n 2, 1) := by decide +kernel
theorem dX3_reach_44 : decode cX3_reach 44 = .ok (.iaload, 1) := by decide +kernel
theorem dX3_reach_45 : decode cX3_reach 45 = .ok (.iconst 1, 1) := by decide +kernel
theorem dX3_reach_46 : decode cX3_reach 46 = .ok (.iadd, 1) := by decide +kernel
theorem dX3_reach_47 : decode cX3_reach 47 = .ok (.iastore, 1) := by decide +kernel
theorem dX3_reach_48 : decode cX3_reach 48 = .ok (.aload_n 0, 1) := by decide +kernel
theorem dX3_reach_49 : decode cX3_reach 49 = .ok (.getfield 18, 3) := by decide +kernel
theorem dX3_reach_52 : decode cX3_reach 52 = .ok (.iload_n 1, 1) := by decide +kernel
theorem dX3_reach_53 : decode cX3_reach 53 = .ok (.iload_n 2, 1) := by decide +kernel
theorem dX3_reach_54 : decode cX3_reach 54 = .ok (.iastore, 1) := by decide +kernel
theorem dX3_reach_55 : decode cX3_reach 55 = .ok (.aload_n 0, 1) := by decide +kernel
theorem dX3_reach_56 : decode cX3_reach 56 = .ok (.getfield 21, 3) := by decide +kernel
theorem dX3_reach_59 : decode cX3_reach 59 = .ok (.iload_n 1, 1) := by decide +kernel
theorem dX3_reach_60 : decode cX3_reach 60 = .ok (.iload_n 3, 1) := by decide +kernel
theorem dX3_reach_61 : decode cX3_reach 61 = .ok (.iastore, 1) := by decide +kernel
theorem dX3_reach_62 : decode cX3_reach 62 = .ok (.aload_n 0, 1) := by decide +kernel
theorem dX3_reach_63 : decode cX3_reach 63 = .ok (.getfield 9, 3) := by decide +kernel
theorem dX3_reach_66 : decode cX3_reach 66 = .ok (.aload_n 0, 1) := by decide +kernel
theorem dX3_reach_67 : decode cX3_reach 67 = .ok (.getfield 30, 3) := by decide +kernel
theorem dX3_reach_70 : decode cX3_reach 70 = .ok (.iload_n 1, 1) := by decide +kernel
theorem dX3_reach_71 : decode cX3_reach 71 = .ok (.iastore, 1) := by decide +kernel
theorem dX3_reach_72 : decode cX3_reach 72 = .ok (.aload_n 0, 1) := by decide +kernel
theorem dX3_reach_73 : decode cX3_reach 73 = .ok (.dup, 1) := by decide +kernel
theorem dX3_reach_74 : decode cX3_reach 74 = .ok (.getfield 30, 3) := by decide +kernel
theorem dX3_reach_77 : decode cX3_reach 77 = .ok (.iconst 1, 1) := by decide +kernel
theorem dX3_reach_78 : decode cX3_reach 78 = .ok (.iadd, 1) := by decide +kernel
theorem dX3_reach_79 : decode cX3_reach 79 = .ok (.putfield 30, 3) := by decide +kernel
theorem dX3_reach_82 : decode cX3_reach 82 = .ok (.return_, 1) := by decide +kernel
theorem dX3_stepsTo_0 : decode cX3_stepsTo 0 = .ok (.iload_n 1, 1) := by decide +kernel
theorem dX3_stepsTo_1 : decode cX3_stepsTo 1 = .ok (.invokestatic 34, 3) := by decide +kernel
theorem dX3_stepsTo_4 : decode cX3_stepsTo 4 = .ok (.ifCond .eq 12, 3) := by decide +kernel
theorem dX3_stepsTo_7 : decode cX3_stepsTo 7 = .ok (.aload_n 0, 1) := by decide +kernel
theorem dX3_stepsTo_8 : decode cX3_stepsTo 8 = .ok (.getfield 15, 3) := by decide +kernel
theorem dX3_stepsTo_11 : decode cX3_stepsTo 11 = .ok (.iload_n 1, 1) := by decide +kernel
theorem dX3_stepsTo_12 : decode cX3_stepsTo 12 = .ok (.iaload, 1) := by decide +kernel
theorem dX3_stepsTo_13 : decode cX3_stepsTo 13 = .ok (.goto 4, 3) := by decide +kernel
theorem dX3_stepsTo_16 : decode cX3_stepsTo 16 = .ok (.iconst (-1), 1) := by decide +kernel
theorem dX3_stepsTo_17 : decode cX3_stepsTo 17 = .ok (.ireturn, 1) := by decide +kernel
theorem dX3_directionOfStep_0 : decode cX3_directionOfStep 0 = .ok (.iload_n 1, 1) := by decide +kernel
theorem dX3_directionOfStep_1 : decode cX3_directionOfStep 1 = .ok (.istore_n 3, 1) := by decide +kernel
theorem dX3_directionOfStep_2 : decode cX3_directionOfStep 2 = .ok (.aload_n 0, 1) := by decide +kernel
theorem dX3_directionOfStep_3 : decode cX3_directionOfStep 3 = .ok (.iload_n 1, 1) := by decide +kernel
theorem dX3_directionOfStep_4 : decode cX3_directionOfStep 4 = .ok (.invokevirtual 38, 3) := by decide +kernel
theorem dX3_directionOfStep_7 : decode cX3_directionOfStep 7 = .ok (.iconst 1, 1) := by decide +kernel
theorem dX3_directionOfStep_8 : decode cX3_directionOfStep 8 = .ok (.isub, 1) := by decide +kernel
theorem dX3_directionOfStep_9 : decode cX3_directionOfStep 9 = .ok (.istore 4, 2) := by decide +kernel
theorem dX3_directionOfStep_11 : decode cX3_directionOfStep 11 = .ok (.iload 4, 2) := by decide +kernel
theorem dX3_directionOfStep_13 : decode cX3_directionOfStep 13 = .ok (.iload_n 2, 1) := by decide +kernel
theorem dX3_directionOfStep_14 : decode cX3_directionOfStep 14 = .ok (.if_icmp .le 23, 3) := by decide +kernel
theorem dX3_directionOfStep_17 : decode cX3_directionOfStep 17 = .ok (.iload_n 3, 1) := by decide +kernel
theorem dX3_directionOfStep_18 : decode cX3_directionOfStep 18 = .ok (.invokestatic 34, 3) := by decide +kernel
theorem dX3_directionOfStep_21 : decode cX3_directionOfStep 21 = .ok (.ifCond .eq 16, 3) := by decide +kernel
theorem dX3_directionOfStep_24 : decode cX3_directionOfStep 24 = .ok (.aload_n 0, 1) := by decide +kernel
theorem dX3_directionOfStep_25 : decode cX3_directionOfStep 25 = .ok (.getfield 18, 3) := by decide +kernel
theorem dX3_directionOfStep_28 : decode cX3_directionOfStep 28 = .ok (.iload_n 3, 1) := by decide +kernel
theorem dX3_directionOfStep_29 : decode cX3_directionOfStep 29 = .ok (.iaload, 1) := by decide +kernel
theorem dX3_directionOfStep_30 : decode cX3_directionOfStep 30 = .ok (.istore_n 3, 1) := by decide +kernel
theorem dX3_directionOfStep_31 : decode cX3_directionOfStep 31 = .ok (.iinc 4 (-1), 3) := by decide +kernel
theorem dX3_directionOfStep_34 : decode cX3_directionOfStep 34 = .ok (.goto (-23), 3) := by decide +kernel
theorem dX3_directionOfStep_37 : decode cX3_directionOfStep 37 = .ok (.iload_n 3, 1) := by decide +kernel
theorem dX3_directionOfStep_38 : decode cX3_directionOfStep 38 = .ok (.invokestatic 34, 3) := by decide +kernel
theorem dX3_directionOfStep_41 : decode cX3_directionOfStep 41 = .ok (.ifCond .eq 12, 3) := by decide +kernel
theorem dX3_directionOfStep_44 : decode cX3_directionOfStep 44 = .ok (.aload_n 0, 1) := by decide +kernel
theorem dX3_directionOfStep_45 : decode cX3_directionOfStep 45 = .ok (.getfield 21, 3) := by decide +kernel
theorem dX3_directionOfStep_48 : decode cX3_directionOfStep 48 = .ok (.iload_n 3, 1) := by decide +kernel
theorem dX3_directionOfStep_49 : decode cX3_directionOfStep 49 = .ok (.iaload, 1) := by decide +kernel
theorem dX3_directionOfStep_50 : decode cX3_directionOfStep 50 = .ok (.goto 4, 3) := by decide +kernel
theorem dX3_directionOfStep_53 : decode cX3_directionOfStep 53 = .ok (.iconst (-1), 1) := by decide +kernel
theorem dX3_directionOfStep_54 : decode cX3_directionOfStep 54 = .ok (.ireturn, 1) := by decide +kernel
theorem dX3_isNumber_0 : decode cX3_isNumber 0 = .ok (.iload_n 0, 1) := by decide +kernel
theorem dX3_isNumber_1 : decode cX3_isNumber 1 = .ok (.ifCond .lt 13, 3) := by decide +kernel
theorem dX3_isNumber_4 : decode cX3_isNumber 4 = .ok (.iload_n 0, 1) := by decide +kernel
theorem dX3_isNumber_5 : decode cX3_isNumber 5 = .ok (.bipush 20, 2) := by decide +kernel
theorem dX3_isNumber_7 : decode cX3_isNumber 7 = .ok (.if_icmp .ge 7, 3) := by decide +kernel
theorem dX3_isNumber_10 : decode cX3_isNumber 10 = .ok (.iconst 1, 1) := by decide +kernel
theorem dX3_isNumber_11 : decode cX3_isNumber 11 = .ok (.goto 4, 3) := by decide +kernel
theorem dX3_isNumber_14 : decode cX3_isNumber 14 = .ok (.iconst 0, 1) := by decide +kernel
theorem dX3_isNumber_15 : decode cX3_isNumber 15 = .ok (.ireturn, 1) := by decide +kernel
theorem dX4_init_0 : decode cX4_init 0 = .ok (.aload_n 0, 1) := by decide +kernel
theorem dX4_init_1 : decode cX4_init 1 = .ok (.invokespecial 3, 3) := by decide +kernel
theorem dX4_init_4 : decode cX4_init 4 = .ok (.aload_n 0, 1) := by decide +kernel
theorem dX4_init_5 : decode cX4_init 5 = .ok (.iconst (-1), 1) := by decide +kernel
theorem dX4_init_6 : decode cX4_init 6 = .ok (.putfield 9, 3) := by decide +kernel
theorem dX4_init_9 : decode cX4_init 9 = .ok (.aload_n 0, 1) := by decide +kernel
theorem dX4_init_10 : decode cX4_init 10 = .ok (.iload_n 1, 1) := by decide +kernel
theorem dX4_init_11 : decode cX4_init 11 = .ok (.putfield 15, 3) := by decide +kernel
theorem dX4_init_14 : decode cX4_init 14 = .ok (.aload_n 0, 1) := by decide +kernel
theorem dX4_init_15 : decode cX4_init 15 = .ok (.iload_n 2, 1) := by decide +kernel
theorem dX4_init_16 : decode cX4_init 16 = .ok (.putfield 18, 3) := by decide +kernel
theorem dX4_init_19 : decode cX4_init 19 = .ok (.aload_n 0, 1) := by decide +kernel
theorem dX4_init_20 : decode cX4_init 20 = .ok (.iload_n 3, 1) := by decide +kernel
theorem dX4_init_21 : decode cX4_init 21 = .ok (.putfield 21, 3) := by decide +kernel
theorem dX4_init_24 : decode cX4_init 24 = .ok (.aload_n 0, 1) := by decide +kernel
theorem dX4_init_25 : decode cX4_init 25 = .ok (.iload 4, 2) := by decide +kernel
theorem dX4_init_27 : decode cX4_init 27 = .ok (.putfield 24, 3) := by decide +kernel
theorem dX4_init_30 : decode cX4_init 30 = .ok (.return_, 1) := by decide +kernel
theorem dX5_init_0 : decode cX5_init 0 = .ok (.aload_n 0, 1) := by decide +kernel
theorem dX5_init_1 : decode cX5_init 1 = .ok (.invokespecial 1, 3) := by decide +kernel
theorem dX5_init_4 : decode cX5_init 4 = .ok (.aload_n 0, 1) := by decide +kernel
theorem dX5_init_5 : decode cX5_init 5 = .ok (.sipush 160, 3) := by decide +kernel
theorem dX5_init_8 : decode cX5_init 8 = .ok (.newarray .int, 2) := by decide +kernel
theorem dX5_init_10 : decode cX5_init 10 = .ok (.putfield 9, 3) := by decide +kernel
theorem dX5_init_13 : decode cX5_init 13 = .ok (.aload_n 0, 1) := by decide +kernel
theorem dX5_init_14 : decode cX5_init 14 = .ok (.sipush 160, 3) := by decide +kernel
theorem dX5_init_17 : decode cX5_init 17 = .ok (.newarray .int, 2) := by decide +kernel
theorem dX5_init_19 : decode cX5_init 19 = .ok (.putfield 13, 3) := by decide +kernel
theorem dX5_init_22 : decode cX5_init 22 = .ok (.aload_n 0, 1) := by decide +kernel
theorem dX5_init_23 : decode cX5_init 23 = .ok (.iconst 5, 1) := by decide +kernel
theorem dX5_init_24 : decode cX5_init 24 = .ok (.anewarray 16, 3) := by decide +kernel
theorem dX5_init_27 : decode cX5_init 27 = .ok (.putfield 18, 3) := by decide +kernel
theorem dX5_init_30 : decode cX5_init 30 = .ok (.aload_n 0, 1) := by decide +kernel
theorem dX5_init_31 : decode cX5_init 31 = .ok (.bipush 7, 2) := by decide +kernel
theorem dX5_init_33 : decode cX5_init 33 = .ok (.newarray .int, 2) := by decide +kernel
theorem dX5_init_35 : decode cX5_init 35 = .ok (.putfield 22, 3) := by decide +kernel
theorem dX5_init_38 : decode cX5_init 38 = .ok (.aload_n 0, 1) := by decide +kernel
theorem dX5_init_39 : decode cX5_init 39 = .ok (.bipush 15, 2) := by decide +kernel
theorem dX5_init_41 : decode cX5_init 41 = .ok (.anewarray 25, 3) := by decide +kernel
theorem dX5_init_44 : decode cX5_init 44 = .ok (.putfield 27, 3) := by decide +kernel
theorem dX5_init_47 : decode cX5_init 47 = .ok (.aload_n 0, 1) := by decide +kernel
theorem dX5_init_48 : decode cX5_init 48 = .ok (.bipush 30, 2) := by decide +kernel
theorem dX5_init_50 : decode cX5_init 50 = .ok (.anewarray 31, 3) := by decide +kernel
theorem dX5_init_53 : decode cX5_init 53 = .ok (.putfield 33, 3) := by decide +kernel
theorem dX5_init_56 : decode cX5_init 56 = .ok (.aload_n 0, 1) := by decide +kernel
theorem dX5_init_57 : decode cX5_init 57 = .ok (.bipush 6, 2) := by decide +kernel
theorem dX5_init_59 : decode cX5_init 59 = .ok (.anewarray 37, 3) := by decide +kernel
theorem dX5_init_62 : decode cX5_init 62 = .ok (.putfield 39, 3) := by decide +kernel
theorem dX5_init_65 : decode cX5_init 65 = .ok (.aload_n 0, 1) := by decide +kernel
theorem dX5_init_66 : decode cX5_init 66 = .ok (.new 43, 3) := by decide +kernel
theorem dX5_init_69 : decode cX5_init 69 = .ok (.dup, 1) := by decide +kernel
theorem dX5_init_70 : decode cX5_init 70 = .ok (.invokespecial 45, 3) := by decide +kernel
theorem dX5_init_73 : decode cX5_init 73 = .ok (.putfield 46, 3) := by decide +kernel
theorem dX5_init_76 : decode cX5_init 76 = .ok (.aload_n 0, 1) := by decide +kernel
theorem dX5_init_77 : decode cX5_init 77 = .ok (.getfield 9, 3) := by decide +kernel
theorem dX5_init_80 : decode cX5_init 80 = .ok (.iconst (-1), 1) := by decide +kernel
theorem dX5_init_81 : decode cX5_init 81 = .ok (.invokestatic 50, 3) := by decide +kernel
theorem dX5_init_84 : decode cX5_init 84 = .ok (.aload_n 0, 1) := by decide +kernel
theorem dX5_init_85 : decode cX5_init 85 = .ok (.getfield 13, 3) := by decide +kernel
theorem dX5_init_88 : decode cX5_init 88 = .ok (.bipush 9, 2) := by decide +kernel
theorem dX5_init_90 : decode cX5_init 90 = .ok (.invokestatic 50, 3) := by decide +kernel
theorem dX5_init_93 : decode cX5_init 93 = .ok (.iconst 0, 1) := by decide +kernel
theorem dX5_init_94 : decode cX5_init 94 = .ok (.istore_n 1, 1) := by decide +kernel
theorem dX5_init_95 : decode cX5_init 95 = .ok (.iload_n 1, 1) := by decide +kernel
theorem dX5_init_96 : decode cX5_init 96 = .ok (.iconst 5, 1) := by decide +kernel
theorem dX5_init_97 : decode cX5_init 97 = .ok (.if_icmp .ge 22, 3) := by decide +kernel
theorem dX5_init_100 : decode cX5_init 100 = .ok (.aload_n 0, 1) := by decide +kernel
theorem dX5_init_101 : decode cX5_init 101 = .ok (.getfield 18, 3) := by decide +kernel
theorem dX5_init_104 : decode cX5_init 104 = .ok (.iload_n 1, 1) := by decide +kernel
theorem dX5_init_105 : decode cX5_init 105 = .ok (.new 16, 3) := by decide +kernel
theorem dX5_init_108 : decode cX5_init 108 = .ok (.dup, 1) := by decide +kernel
theorem dX5_init_109 : decode cX5_init 109 = .ok (.invokespecial 56, 3) := by decide +kernel
theorem dX5_init_112 : decode cX5_init 112 = .ok (.aastore, 1) := by decide +kernel
theorem dX5_init_113 : decode cX5_init 113 = .ok (.iinc 1 1, 3) := by decide +kernel
theorem dX5_init_116 : decode cX5_init 116 = .ok (.goto (-21), 3) := by decide +kernel
theorem dX5_init_119 : decode cX5_init 119 = .ok (.return_, 1) := by decide +kernel
theorem dX5_room_0 : decode cX5_room 0 = .ok (.aload_n 0, 1) := by decide +kernel
theorem dX5_room_1 : decode cX5_room 1 = .ok (.getfield 57, 3) := by decide +kernel
theorem dX5_room_4 : decode cX5_room 4 = .ok (.bipush 20, 2) := by decide +kernel
theorem dX5_room_6 : decode cX5_room 6 = .ok (.if_icmp .lt 6, 3) := by decide +kernel
theorem dX5_room_9 : decode cX5_room 9 = .ok (.bipush (-2), 2) := by decide +kernel
theorem dX5_room_11 : decode cX5_room 11 = .ok (.ireturn, 1) := by decide +kernel
theorem dX5_room_12 : decode cX5_room 12 = .ok (.aload_n 0, 1) := by decide +kernel
theorem dX5_room_13 : decode cX5_room 13 = .ok (.dup, 1) := by decide +kernel
theorem dX5_room_14 : decode cX5_room 14 = .ok (.getfield 57, 3) := by decide +kernel
theorem dX5_room_17 : decode cX5_room 17 = .ok (.dup_x1, 1) := by decide +kernel
theorem dX5_room_18 : decode cX5_room 18 = .ok (.iconst 1, 1) := by decide +kernel
theorem dX5_room_19 : decode cX5_room 19 = .ok (.iadd, 1) := by decide +kernel
theorem dX5_room_20 : decode cX5_room 20 = .ok (.putfield 57, 3) := by decide +kernel
theorem dX5_room_23 : decode cX5_room 23 = .ok (.ireturn, 1) := by decide +kernel
theorem dX5_door_0 : decode cX5_door 0 = .ok (.aload_n 0, 1) := by decide +kernel
theorem dX5_door_1 : decode cX5_door 1 = .ok (.iload_n 1, 1) := by decide +kernel
theorem dX5_door_2 : decode cX5_door 2 = .ok (.invokevirtual 61, 3) := by decide +kernel
theorem dX5_door_5 : decode cX5_door 5 = .ok (.ifCond .eq 21, 3) := by decide +kernel
theorem dX5_door_8 : decode cX5_door 8 = .ok (.iload_n 1, 1) := by decide +kernel
theorem dX5_door_9 : decode cX5_door 9 = .ok (.iload_n 2, 1) := by decide +kernel
theorem dX5_door_10 : decode cX5_door 10 = .ok (.if_icmp .eq 16, 3) := by decide +kernel
theorem dX5_door_13 : decode cX5_door 13 = .ok (.iload_n 2, 1) := by decide +kernel
theorem dX5_door_14 : decode cX5_door 14 = .ok (.iconst (-1), 1) := by decide +kernel
theorem dX5_door_15 : decode cX5_door 15 = .ok (.if_icmp .eq 13, 3) := by decide +kernel
theorem dX5_door_18 : decode cX5_door 18 = .ok (.aload_n 0, 1) := by decide +kernel
theorem dX5_door_19 : decode cX5_door 19 = .ok (.iload_n 2, 1) := by decide +kernel
theorem dX5_door_20 : decode cX5_door 20 = .ok (.invokevirtual 61, 3) := by decide +kernel
theorem dX5_door_23 : decode cX5_door 23 = .ok (.ifCond .ne 5, 3) := by decide +kernel
theorem dX5_door_26 : decode cX5_door 26 = .ok (.iconst (-1), 1) := by decide +kernel
theorem dX5_door_27 : decode cX5_door 27 = .ok (.ireturn, 1) := by decide +kernel
theorem dX5_door_28 : decode cX5_door 28 = .ok (.aload_n 0, 1) := by decide +kernel
theorem dX5_door_29 : decode cX5_door 29 = .ok (.getfield 65, 3) := by decide +kernel
theorem dX5_door_32 : decode cX5_door 32 = .ok (.bipush 15, 2) := by decide +kernel
theorem dX5_door_34 : decode cX5_door 34 = .ok (.if_icmp .lt 6, 3) := by decide +kernel
theorem dX5_door_37 : decode cX5_door 37 = .ok (.bipush (-2), 2) := by decide +kernel
theorem dX5_door_39 : decode cX5_door 39 = .ok (.ireturn, 1) := by decide +kernel
theorem dX5_door_40 : decode cX5_door 40 = .ok (.aload_n 0, 1) := by decide +kernel
theorem dX5_door_41 : decode cX5_door 41 = .ok (.getfield 27, 3) := by decide +kernel
theorem dX5_door_44 : decode cX5_door 44 = .ok (.aload_n 0, 1) := by decide +kernel
theorem dX5_door_45 : decode cX5_door 45 = .ok (.getfield 65, 3) := by decide +kernel
theorem dX5_door_48 : decode cX5_door 48 = .ok (.new 25, 3) := by decide +kernel
theorem dX5_door_51 : decode cX5_door 51 = .ok (.dup, 1) := by decide +kernel
theorem dX5_door_52 : decode cX5_door 52 = .ok (.iload_n 1, 1) := by decide +kernel
theorem dX5_door_53 : decode cX5_door 53 = .ok (.iload_n 2, 1) := by decide +kernel
theorem dX5_door_54 : decode cX5_door 54 = .ok (.invokespecial 68, 3) := by decide +kernel
theorem dX5_door_57 : decode cX5_door 57 = .ok (.aastore, 1) := by decide +kernel
theorem dX5_door_58 : decode cX5_door 58 = .ok (.aload_n 0, 1) := by decide +kernel
theorem dX5_door_59 : decode cX5_door 59 = .ok (.dup, 1) := by decide +kernel
theorem dX5_door_60 : decode cX5_door 60 = .ok (.getfield 65, 3) := by decide +kernel
theorem dX5_door_63 : decode cX5_door 63 = .ok (.dup_x1, 1) := by decide +kernel
theorem dX5_door_64 : decode cX5_door 64 = .ok (.iconst 1, 1) := by decide +kernel
theorem dX5_door_65 : decode cX5_door 65 = .ok (.iadd, 1) := by decide +kernel
theorem dX5_door_66 : decode cX5_door 66 = .ok (.putfield 65, 3) := by decide +kernel
theorem dX5_door_69 : decode cX5_door 69 = .ok (.ireturn, 1) := by decide +kernel
theorem dX5_exit_0 : decode cX5_exit 0 = .ok (.aload_n 0, 1) := by decide +kernel
theorem dX5_exit_1 : decode cX5_exit 1 = .ok (.iload_n 1, 1) := by decide +kernel
theorem dX5_exit_2 : decode cX5_exit 2 = .ok (.iload_n 2, 1) := by decide +kernel
theorem dX5_exit_3 : decode cX5_exit 3 = .ok (.invokevirtual 71, 3) := by decide +kernel
theorem dX5_exit_6 : decode cX5_exit 6 = .ok (.ifCond .eq 12, 3) := by decide +kernel
theorem dX5_exit_9 : decode cX5_exit 9 = .ok (.aload_n 0, 1) := by decide +kernel
theorem dX5_exit_10 : decode cX5_exit 10 = .ok (.iload_n 1, 1) := by decide +kernel
theorem dX5_exit_11 : decode cX5_exit 11 = .ok (.iload_n 3, 1) := by decide +kernel
theorem dX5_exit_12 : decode cX5_exit 12 = .ok (.invokevirtual 75, 3) := by decide +kernel
theorem dX5_exit_15 : decode cX5_exit 15 = .ok (.ifCond .ne 5, 3) := by decide +kernel
theorem dX5_exit_18 : decode cX5_exit 18 = .ok (.iconst (-1), 1) := by decide +kernel
theorem dX5_exit_19 : decode cX5_exit 19 = .ok (.ireturn, 1) := by decide +kernel
theorem dX5_exit_20 : decode cX5_exit 20 = .ok (.aload_n 0, 1) := by decide +kernel
theorem dX5_exit_21 : decode cX5_exit 21 = .ok (.getfield 9, 3) := by decide +kernel
theorem dX5_exit_24 : decode cX5_exit 24 = .ok (.iload_n 1, 1) := by decide +kernel
theorem dX5_exit_25 : decode cX5_exit 25 = .ok (.iload_n 2, 1) := by decide +kernel
theorem dX5_exit_26 : decode cX5_exit 26 = .ok (.invokestatic 78, 3) := by decide +kernel
theorem dX5_exit_29 : decode cX5_exit 29 = .ok (.iaload, 1) := by decide +kernel
theorem dX5_exit_30 : decode cX5_exit 30 = .ok (.istore 4, 2) := by decide +kernel
theorem dX5_exit_32 : decode cX5_exit 32 = .ok (.aload_n 0, 1) := by decide +kernel
theorem dX5_exit_33 : decode cX5_exit 33 = .ok (.getfield 9, 3) := by decide +kernel
theorem dX5_exit_36 : decode cX5_exit 36 = .ok (.iload_n 1, 1) := by decide +kernel
theorem dX5_exit_37 : decode cX5_exit 37 = .ok (.iload_n 2, 1) := by decide +kernel
theorem dX5_exit_38 : decode cX5_exit 38 = .ok (.invokestatic 78, 3) := by decide +kernel
theorem dX5_exit_41 : decode cX5_exit 41 = .ok (.iload_n 3, 1) := by decide +kernel
theorem dX5_exit_42 : decode cX5_exit 42 = .ok (.iastore, 1) := by decide +kernel
theorem dX5_exit_43 : decode cX5_exit 43 = .ok (.iload 4, 2) := by decide +kernel
theorem dX5_exit_45 : decode cX5_exit 45 = .ok (.ireturn, 1) := by decide +kernel
theorem dX5_width_0 : decode cX5_width 0 = .ok (.aload_n 0, 1) := by decide +kernel
theorem dX5_width_1 : decode cX5_width 1 = .ok (.iload_n 1, 1) := by decide +kernel
theorem dX5_width_2 : decode cX5_width 2 = .ok (.iload_n 2, 1) := by decide +kernel
theorem dX5_width_3 : decode cX5_width 3 = .ok (.invokevirtual 71, 3) := by decide +kernel
theorem dX5_width_6 : decode cX5_width 6 = .ok (.ifCond .eq 14, 3) := by decide +kernel
theorem dX5_width_9 : decode cX5_width 9 = .ok (.iload_n 3, 1) := by decide +kernel
theorem dX5_width_10 : decode cX5_width 10 = .ok (.iconst 1, 1) := by decide +kernel
theorem dX5_width_11 : decode cX5_width 11 = .ok (.if_icmp .lt 9, 3) := by decide +kernel
theorem dX5_width_14 : decode cX5_width 14 = .ok (.iload_n 3, 1) := by decide +kernel
theorem dX5_width_15 : decode cX5_width 15 = .ok (.bipush 9, 2) := by decide +kernel
theorem dX5_width_17 : decode cX5_width 17 = .ok (.if_icmp .le 5, 3) := by decide +kernel
theorem dX5_width_20 : decode cX5_width 20 = .ok (.iconst (-1), 1) := by decide +kernel
theorem dX5_width_21 : decode cX5_width 21 = .ok (.ireturn, 1) := by decide +kernel
theorem dX5_width_22 : decode cX5_width 22 = .ok (.aload_n 0, 1) := by decide +kernel
theorem dX5_width_23 : decode cX5_width 23 = .ok (.getfield 13, 3) := by decide +kernel
theorem dX5_width_26 : decode cX5_width 26 = .ok (.iload_n 1, 1) := by decide +kernel
theorem dX5_width_27 : decode cX5_width 27 = .ok (.iload_n 2, 1) := by decide +kernel
theorem dX5_width_28 : decode cX5_width 28 = .ok (.invokestatic 78, 3) := by decide +kernel
theorem dX5_width_31 : decode cX5_width 31 = .ok (.iaload, 1) := by decide +kernel
theorem dX5_width_32 : decode cX5_width 32 = .ok (.istore 4, 2) := by decide +kernel
theorem dX5_width_34 : decode cX5_width 34 = .ok (.aload_n 0, 1) := by decide +kernel
theorem dX5_width_35 : decode cX5_width 35 = .ok (.getfield 13, 3) := by decide +kernel
theorem dX5_width_38 : decode cX5_width 38 = .ok (.iload_n 1, 1) := by decide +kernel
theorem dX5_width_39 : decode cX5_width 39 = .ok (.iload_n 2, 1) := by decide +kernel
theorem dX5_width_40 : decode cX5_width 40 = .ok (.invokestatic 78, 3) := by decide +kernel
theorem dX5_width_43 : decode cX5_width 43 = .ok (.iload_n 3, 1) := by decide +kernel
theorem dX5_width_44 : decode cX5_width 44 = .ok (.iastore, 1) := by decide +kernel
theorem dX5_width_45 : decode cX5_width 45 = .ok (.iload 4, 2) := by decide +kernel
theorem dX5_width_47 : decode cX5_width 47 = .ok (.ireturn, 1) := by decide +kernel
theorem dX5_turn_0 : decode cX5_turn 0 = .ok (.aload_n 0, 1) := by decide +kernel
theorem dX5_turn_1 : decode cX5_turn 1 = .ok (.iload_n 1, 1) := by decide +kernel
theorem dX5_turn_2 : decode cX5_turn 2 = .ok (.invokevirtual 82, 3) := by decide +kernel
theorem dX5_turn_5 : decode cX5_turn 5 = .ok (.astore_n 3, 1) := by decide +kernel
theorem dX5_turn_6 : decode cX5_turn 6 = .ok (.aload_n 3, 1) := by decide +kernel
theorem dX5_turn_7 : decode cX5_turn 7 = .ok (.ifnull 11, 3) := by decide +kernel
theorem dX5_turn_10 : decode cX5_turn 10 = .ok (.aload_n 0, 1) := by decide +kernel
theorem dX5_turn_11 : decode cX5_turn 11 = .ok (.iload_n 2, 1) := by decide +kernel
theorem dX5_turn_12 : decode cX5_turn 12 = .ok (.invokevirtual 61, 3) := by decide +kernel
theorem dX5_turn_15 : decode cX5_turn 15 = .ok (.ifCond .ne 5, 3) := by decide +kernel
theorem dX5_turn_18 : decode cX5_turn 18 = .ok (.iconst (-1), 1) := by decide +kernel
theorem dX5_turn_19 : decode cX5_turn 19 = .ok (.ireturn, 1) := by decide +kernel
theorem dX5_turn_20 : decode cX5_turn 20 = .ok (.aload_n 3, 1) := by decide +kernel
theorem dX5_turn_21 : decode cX5_turn 21 = .ok (.iload_n 2, 1) := by decide +kernel
theorem dX5_turn_22 : decode cX5_turn 22 = .ok (.invokevirtual 86, 3) := by decide +kernel
theorem dX5_turn_25 : decode cX5_turn 25 = .ok (.ifCond .eq 10, 3) := by decide +kernel
theorem dX5_turn_28 : decode cX5_turn 28 = .ok (.aload_n 3, 1) := by decide +kernel
theorem dX5_turn_29 : decode cX5_turn 29 = .ok (.getfield 89, 3) := by decide +kernel
theorem dX5_turn_32 : decode cX5_turn 32 = .ok (.goto 5, 3) := by decide +kernel
theorem dX5_turn_35 : decode cX5_turn 35 = .ok (.bipush (-2), 2) := by decide +kernel
theorem dX5_turn_37 : decode cX5_turn 37 = .ok (.ireturn, 1) := by decide +kernel
theorem dX5_region_0 : decode cX5_region 0 = .ok (.iload_n 1, 1) := by decide +kernel
theorem dX5_region_1 : decode cX5_region 1 = .ok (.invokestatic 92, 3) := by decide +kernel
theorem dX5_region_4 : decode cX5_region 4 = .ok (.ifCond .eq 11, 3) := by decide +kernel
theorem dX5_region_7 : decode cX5_region 7 = .ok (.aload_n 0, 1) := by decide +kernel
theorem dX5_region_8 : decode cX5_region 8 = .ok (.iload_n 2, 1) := by decide +kernel
theorem dX5_region_9 : decode cX5_region 9 = .ok (.invokevirtual 61, 3) := by decide +kernel
theorem dX5_region_12 : decode cX5_region 12 = .ok (.ifCond .ne 5, 3) := by decide +kernel
theorem dX5_region_15 : decode cX5_region 15 = .ok (.iconst (-1), 1) := by decide +kernel
theorem dX5_region_16 : decode cX5_region 16 = .ok (.ireturn, 1) := by decide +kernel
theorem dX5_region_17 : decode cX5_region 17 = .ok (.iconst 1, 1) := by decide +kernel
theorem dX5_region_18 : decode cX5_region 18 = .ok (.iload_n 2, 1) := by decide +kernel
theorem dX5_region_19 : decode cX5_region 19 = .ok (.ishl, 1) := by decide +kernel
theorem dX5_region_20 : decode cX5_region 20 = .ok (.istore 4, 2) := by decide +kernel
theorem dX5_region_22 : decode cX5_region 22 = .ok (.aload_n 0, 1) := by decide +kernel
theorem dX5_region_23 : decode cX5_region 23 = .ok (.getfield 22, 3) := by decide +kernel
theorem dX5_region_26 : decode cX5_region 26 = .ok (.iload_n 1, 1) := by decide +kernel
theorem dX5_region_27 : decode cX5_region 27 = .ok (.iload_n 3, 1) := by decide +kernel
theorem dX5_region_28 : decode cX5_region 28 = .ok (.ifCond .eq 15, 3) := by decide +kernel
theorem dX5_region_31 : decode cX5_region 31 = .ok (.aload_n 0, 1) := by decide +kernel
theorem dX5_region_32 : decode cX5_region 32 = .ok (.getfield 22, 3) := by decide +kernel
theorem dX5_region_35 : decode cX5_region 35 = .ok (.iload_n 1, 1) := by decide +kernel
theorem dX5_region_36 : decode cX5_region 36 = .ok (.iaload, 1) := by decide +kernel
theorem dX5_region_37 : decode cX5_region 37 = .ok (.iload 4, 2) := by decide +kernel
theorem dX5_region_39 : decode cX5_region 39 = .ok (.ior, 1) := by decide +kernel
theorem dX5_region_40 : decode cX5_region 40 = .ok (.goto 14, 3) := by decide +kernel
theorem dX5_region_43 : decode cX5_region 43 = .ok (.aload_n 0, 1) := by decide +kernel
theorem dX5_region_44 : decode cX5_region 44 = .ok (.getfield 22, 3) := by decide +kernel
theorem dX5_region_47 : decode cX5_region 47 = .ok (.iload_n 1, 1) := by decide +kernel
theorem dX5_region_48 : decode cX5_region 48 = .ok (.iaload, 1) := by decide +kernel
theorem dX5_region_49 : decode cX5_region 49 = .ok (.iload 4, 2) := by decide +kernel
theorem dX5_region_51 : decode cX5_region 51 = .ok (.iconst (-1), 1) := by decide +kernel
theorem dX5_region_52 : decode cX5_region 52 = .ok (.ixor, 1) := by decide +kernel
theorem dX5_region_53 : decode cX5_region 53 = .ok (.iand, 1) := by decide +kernel
theorem dX5_region_54 : decode cX5_region 54 = .ok (.iastore, 1) := by decide +kernel
theorem dX5_region_55 : decode cX5_region 55 = .ok (.aload_n 0, 1) := by decide +kernel
theorem dX5_region_56 : decode cX5_region 56 = .ok (.getfield 22, 3) := by decide +kernel
theorem dX5_region_59 : decode cX5_region 59 = .ok (.iload_n 1, 1) := by decide +kernel
theorem dX5_region_60 : decode cX5_region 60 = .ok (.iaload, 1) := by decide +kernel
theorem dX5_region_61 : decode cX5_region 61 = .ok (.invokestatic 95, 3) := by decide +kernel
theorem dX5_region_64 : decode cX5_region 64 = .ok (.ireturn, 1) := by decide +kernel
theorem dX5_lock_0 : decode cX5_lock 0 = .ok (.aload_n 0, 1) := by decide +kernel
theorem dX5_lock_1 : decode cX5_lock 1 = .ok (.iload_n 1, 1) := by decide +kernel
theorem dX5_lock_2 : decode cX5_lock 2 = .ok (.invokevirtual 101, 3) := by decide +kernel
theorem dX5_lock_5 : decode cX5_lock 5 = .ok (.astore 4, 2) := by decide +kernel
theorem dX5_lock_7 : decode cX5_lock 7 = .ok (.aload_n 0, 1) := by decide +kernel
theorem dX5_lock_8 : decode cX5_lock 8 = .ok (.iload_n 2, 1) := by decide +kernel
theorem dX5_lock_9 : decode cX5_lock 9 = .ok (.invokevirtual 105, 3) := by decide +kernel
theorem dX5_lock_12 : decode cX5_lock 12 = .ok (.astore 5, 2) := by decide +kernel
theorem dX5_lock_14 : decode cX5_lock 14 = .ok (.aload 4, 2) := by decide +kernel
theorem dX5_lock_16 : decode cX5_lock 16 = .ok (.ifnull 13, 3) := by decide +kernel
theorem dX5_lock_19 : decode cX5_lock 19 = .ok (.iload_n 2, 1) := by decide +kernel
theorem dX5_lock_20 : decode cX5_lock 20 = .ok (.iconst (-1), 1) := by decide +kernel
theorem dX5_lock_21 : decode cX5_lock 21 = .ok (.if_icmp .eq 10, 3) := by decide +kernel
theorem dX5_lock_24 : decode cX5_lock 24 = .ok (.aload 5, 2) := by decide +kernel
theorem dX5_lock_26 : decode cX5_lock 26 = .ok (.ifnonnull 5, 3) := by decide +kernel
theorem dX5_lock_29 : decode cX5_lock 29 = .ok (.iconst (-1), 1) := by decide +kernel
theorem dX5_lock_30 : decode cX5_lock 30 = .ok (.ireturn, 1) := by decide +kernel
theorem dX5_lock_31 : decode cX5_lock 31 = .ok (.aload 5, 2) := by decide +kernel
theorem dX5_lock_33 : decode cX5_lock 33 = .ok (.ifnonnull 10, 3) := by decide +kernel
theorem dX5_lock_36 : decode cX5_lock 36 = .ok (.iload_n 3, 1) := by decide +kernel
theorem dX5_lock_37 : decode cX5_lock 37 = .ok (.ifCond .eq 16, 3) := by decide +kernel
theorem dX5_lock_40 : decode cX5_lock 40 = .ok (.goto 11, 3) := by decide +kernel
theorem dX5_lock_43 : decode cX5_lock 43 = .ok (.aload 5, 2) := by decide +kernel
theorem dX5_lock_45 : decode cX5_lock 45 = .ok (.getfield 109, 3) := by decide +kernel
theorem dX5_lock_48 : decode cX5_lock 48 = .ok (.ifCond .eq 5, 3) := by decide +kernel
theorem dX5_lock_51 : decode cX5_lock 51 = .ok (.iconst (-1), 1) := by decide +kernel
theorem dX5_lock_52 : decode cX5_lock 52 = .ok (.ireturn, 1) := by decide +kernel
theorem dX5_lock_53 : decode cX5_lock 53 = .ok (.aload 4, 2) := by decide +kernel
theorem dX5_lock_55 : decode cX5_lock 55 = .ok (.aload 5, 2) := by decide +kernel
theorem dX5_lock_57 : decode cX5_lock 57 = .ok (.putfield 112, 3) := by decide +kernel
theorem dX5_lock_60 : decode cX5_lock 60 = .ok (.aload 4, 2) := by decide +kernel
theorem dX5_lock_62 : decode cX5_lock 62 = .ok (.iload_n 3, 1) := by decide +kernel
theorem dX5_lock_63 : decode cX5_lock 63 = .ok (.putfield 116, 3) := by decide +kernel
theorem dX5_lock_66 : decode cX5_lock 66 = .ok (.iconst 1, 1) := by decide +kernel
theorem dX5_lock_67 : decode cX5_lock 67 = .ok (.ireturn, 1) := by decide +kernel
theorem dX5_thing_0 : decode cX5_thing 0 = .ok (.aload_n 0, 1) := by decide +kernel
theorem dX5_thing_1 : decode cX5_thing 1 = .ok (.iload_n 1, 1) := by decide +kernel
theorem dX5_thing_2 : decode cX5_thing 2 = .ok (.invokevirtual 61, 3) := by decide +kernel
theorem dX5_thing_5 : decode cX5_thing 5 = .ok (.ifCond .eq 23, 3) := by decide +kernel
theorem dX5_thing_8 : decode cX5_thing 8 = .ok (.iload_n 2, 1) := by decide +kernel
theorem dX5_thing_9 : decode cX5_thing 9 = .ok (.ifCond .lt 19, 3) := by decide +kernel
theorem dX5_thing_12 : decode cX5_thing 12 = .ok (.iload_n 2, 1) := by decide +kernel
theorem dX5_thing_13 : decode cX5_thing 13 = .ok (.iconst 3, 1) := by decide +kernel
theorem dX5_thing_14 : decode cX5_thing 14 = .ok (.if_icmp .gt 14, 3) := by decide +kernel
theorem dX5_thing_17 : decode cX5_thing 17 = .ok (.iload_n 3, 1) := by decide +kernel
theorem dX5_thing_18 : decode cX5_thing 18 = .ok (.iconst 1, 1) := by decide +kernel
theorem dX5_thing_19 : decode cX5_thing 19 = .ok (.if_icmp .lt 9, 3) := by decide +kernel
theorem dX5_thing_22 : decode cX5_thing 22 = .ok (.iload_n 3, 1) := by decide +kernel
theorem dX5_thing_23 : decode cX5_thing 23 = .ok (.bipush 9, 2) := by decide +kernel
theorem dX5_thing_25 : decode cX5_thing 25 = .ok (.if_icmp .le 5, 3) := by decide +kernel
theorem dX5_thing_28 : decode cX5_thing 28 = .ok (.iconst (-1), 1) := by decide +kernel
theorem dX5_thing_29 : decode cX5_thing 29 = .ok (.ireturn, 1) := by decide +kernel
theorem dX5_thing_30 : decode cX5_thing 30 = .ok (.aload_n 0, 1) := by decide +kernel
theorem dX5_thing_31 : decode cX5_thing 31 = .ok (.getfield 120, 3) := by decide +kernel
theorem dX5_thing_34 : decode cX5_thing 34 = .ok (.bipush 30, 2) := by decide +kernel
theorem dX5_thing_36 : decode cX5_thing 36 = .ok (.if_icmp .lt 6, 3) := by decide +kernel
theorem dX5_thing_39 : decode cX5_thing 39 = .ok (.bipush (-2), 2) := by decide +kernel
theorem dX5_thing_41 : decode cX5_thing 41 = .ok (.ireturn, 1) := by decide +kernel
theorem dX5_thing_42 : decode cX5_thing 42 = .ok (.aload_n 0, 1) := by decide +kernel
theorem dX5_thing_43 : decode cX5_thing 43 = .ok (.getfield 33, 3) := by decide +kernel
theorem dX5_thing_46 : decode cX5_thing 46 = .ok (.aload_n 0, 1) := by decide +kernel
theorem dX5_thing_47 : decode cX5_thing 47 = .ok (.getfield 120, 3) := by decide +kernel
theorem dX5_thing_50 : decode cX5_thing 50 = .ok (.new 31, 3) := by decide +kernel
theorem dX5_thing_53 : decode cX5_thing 53 = .ok (.dup, 1) := by decide +kernel
theorem dX5_thing_54 : decode cX5_thing 54 = .ok (.aload_n 0, 1) := by decide +kernel
theorem dX5_thing_55 : decode cX5_thing 55 = .ok (.getfield 120, 3) := by decide +kernel
theorem dX5_thing_58 : decode cX5_thing 58 = .ok (.iload_n 1, 1) := by decide +kernel
theorem dX5_thing_59 : decode cX5_thing 59 = .ok (.iload_n 2, 1) := by decide +kernel
theorem dX5_thing_60 : decode cX5_thing 60 = .ok (.iload_n 3, 1) := by decide +kernel
theorem dX5_thing_61 : decode cX5_thing 61 = .ok (.invokespecial 123, 3) := by decide +kernel
theorem dX5_thing_64 : decode cX5_thing 64 = .ok (.aastore, 1) := by decide +kernel
theorem dX5_thing_65 : decode cX5_thing 65 = .ok (.aload_n 0, 1) := by decide +kernel
theorem dX5_thing_66 : decode cX5_thing 66 = .ok (.dup, 1) := by decide +kernel
theorem dX5_thing_67 : decode cX5_thing 67 = .ok (.getfield 120, 3) := by decide +kernel
theorem dX5_thing_70 : decode cX5_thing 70 = .ok (.dup_x1, 1) := by decide +kernel
theorem dX5_thing_71 : decode cX5_thing 71 = .ok (.iconst 1, 1) := by decide +kernel
theorem dX5_thing_72 : decode cX5_thing 72 = .ok (.iadd, 1) := by decide +kernel
theorem dX5_thing_73 : decode cX5_thing 73 = .ok (.putfield 120, 3) := by decide +kernel
theorem dX5_thing_76 : decode cX5_thing 76 = .ok (.ireturn, 1) := by decide +kernel
theorem dX5_floats_0 : decode cX5_floats 0 = .ok (.aload_n 0, 1) := by decide +kernel
theorem dX5_floats_1 : decode cX5_floats 1 = .ok (.iload_n 1, 1) := by decide +kernel
theorem dX5_floats_2 : decode cX5_floats 2 = .ok (.invokevirtual 105, 3) := by decide +kernel
theorem dX5_floats_5 : decode cX5_floats 5 = .ok (.astore_n 3, 1) := by decide +kernel
theorem dX5_floats_6 : decode cX5_floats 6 = .ok (.aload_n 3, 1) := by decide +kernel
theorem dX5_floats_7 : decode cX5_floats 7 = .ok (.ifnull 18, 3) := by decide +kernel
theorem dX5_floats_10 : decode cX5_floats 10 = .ok (.aload_n 3, 1) := by decide +kernel
theorem dX5_floats_11 : decode cX5_floats 11 = .ok (.getfield 109, 3) := by decide +kernel
theorem dX5_floats_14 : decode cX5_floats 14 = .ok (.iconst 1, 1) := by decide +kernel
theorem dX5_floats_15 : decode cX5_floats 15 = .ok (.if_icmp .ne 10, 3) := by decide +kernel
theorem dX5_floats_18 : decode cX5_floats 18 = .ok (.iload_n 2, 1) := by decide +kernel
theorem dX5_floats_19 : decode cX5_floats 19 = .ok (.invokestatic 92, 3) := by decide +kernel
theorem dX5_floats_22 : decode cX5_floats 22 = .ok (.ifCond .ne 5, 3) := by decide +kernel
theorem dX5_floats_25 : decode cX5_floats 25 = .ok (.iconst (-1), 1) := by decide +kernel
theorem dX5_floats_26 : decode cX5_floats 26 = .ok (.ireturn, 1) := by decide +kernel
theorem dX5_floats_27 : decode cX5_floats 27 = .ok (.aload_n 3, 1) := by decide +kernel
theorem dX5_floats_28 : decode cX5_floats 28 = .ok (.iload_n 2, 1) := by decide +kernel
theorem dX5_floats_29 : decode cX5_floats 29 = .ok (.putfield 126, 3) := by decide +kernel
theorem dX5_floats_32 : decode cX5_floats 32 = .ok (.iconst 1, 1) := by decide +kernel
theorem dX5_floats_33 : decode cX5_floats 33 = .ok (.ireturn, 1) := by decide +kernel
theorem dX5_being_0 : decode cX5_being 0 = .ok (.aload_n 0, 1) := by decide +kernel
theorem dX5_being_1 : decode cX5_being 1 = .ok (.iload_n 1, 1) := by decide +kernel
theorem dX5_being_2 : decode cX5_being 2 = .ok (.invokevirtual 61, 3) := by decide +kernel
theorem dX5_being_5 : decode cX5_being 5 = .ok (.ifCond .ne 5, 3) := by decide +kernel
theorem dX5_being_8 : decode cX5_being 8 = .ok (.iconst (-1), 1) := by decide +kernel
theorem dX5_being_9 : decode cX5_being 9 = .ok (.ireturn, 1) := by decide +kernel
theorem dX5_being_10 : decode cX5_being 10 = .ok (.aload_n 0, 1) := by decide +kernel
theorem dX5_being_11 : decode cX5_being 11 = .ok (.getfield 129, 3) := by decide +kernel
theorem dX5_being_14 : decode cX5_being 14 = .ok (.bipush 6, 2) := by decide +kernel
theorem dX5_being_16 : decode cX5_being 16 = .ok (.if_icmp .lt 6, 3) := by decide +kernel
theorem dX5_being_19 : decode cX5_being 19 = .ok (.bipush (-2), 2) := by decide +kernel
theorem dX5_being_21 : decode cX5_being 21 = .ok (.ireturn, 1) := by decide +kernel
theorem dX5_being_22 : decode cX5_being 22 = .ok (.aload_n 0, 1) := by decide +kernel
theorem dX5_being_23 : decode cX5_being 23 = .ok (.getfield 39, 3) := by decide +kernel
theorem dX5_being_26 : decode cX5_being 26 = .ok (.aload_n 0, 1) := by decide +kernel
theorem dX5_being_27 : decode cX5_being 27 = .ok (.getfield 129, 3) := by decide +kernel
theorem dX5_being_30 : decode cX5_being 30 = .ok (.new 37, 3) := by decide +kernel
theorem dX5_being_33 : decode cX5_being 33 = .ok (.dup, 1) := by decide +kernel
theorem dX5_being_34 : decode cX5_being 34 = .ok (.aload_n 0, 1) := by decide +kernel
theorem dX5_being_35 : decode cX5_being 35 = .ok (.getfield 129, 3) := by decide +kernel
theorem dX5_being_38 : decode cX5_being 38 = .ok (.iload_n 1, 1) := by decide +kernel
theorem dX5_being_39 : decode cX5_being 39 = .ok (.invokespecial 132, 3) := by decide +kernel
theorem dX5_being_42 : decode cX5_being 42 = .ok (.aastore, 1) := by decide +kernel
theorem dX5_being_43 : decode cX5_being 43 = .ok (.aload_n 0, 1) := by decide +kernel
theorem dX5_being_44 : decode cX5_being 44 = .ok (.dup, 1) := by decide +kernel
theorem dX5_being_45 : decode cX5_being 45 = .ok (.getfield 129, 3) := by decide +kernel
theorem dX5_being_48 : decode cX5_being 48 = .ok (.dup_x1, 1) := by decide +kernel
theorem dX5_being_49 : decode cX5_being 49 = .ok (.iconst 1, 1) := by decide +kernel
theorem dX5_being_50 : decode cX5_being 50 = .ok (.iadd, 1) := by decide +kernel
theorem dX5_being_51 : decode cX5_being 51 = .ok (.putfield 129, 3) := by decide +kernel
theorem dX5_being_54 : decode cX5_being 54 = .ok (.ireturn, 1) := by decide +kernel
theorem dX5_act_0 : decode cX5_act 0 = .ok (.aload_n 0, 1) := by decide +kernel
theorem dX5_act_1 : decode cX5_act 1 = .ok (.iload_n 1, 1) := by decide +kernel
theorem dX5_act_2 : decode cX5_act 2 = .ok (.invokevirtual 133, 3) := by decide +kernel
theorem dX5_act_5 : decode cX5_act 5 = .ok (.astore 4, 2) := by decide +kernel
theorem dX5_act_7 : decode cX5_act 7 = .ok (.aload_n 0, 1) := by decide +kernel
theorem dX5_act_8 : decode cX5_act 8 = .ok (.iload_n 3, 1) := by decide +kernel
theorem dX5_act_9 : decode cX5_act 9 = .ok (.invokevirtual 101, 3) := by decide +kernel
theorem dX5_act_12 : decode cX5_act 12 = .ok (.astore 5, 2) := by decide +kernel
theorem dX5_act_14 : decode cX5_act 14 = .ok (.aload 4, 2) := by decide +kernel
theorem dX5_act_16 : decode cX5_act 16 = .ok (.ifnull 17, 3) := by decide +kernel
theorem dX5_act_19 : decode cX5_act 19 = .ok (.aload 5, 2) := by decide +kernel
theorem dX5_act_21 : decode cX5_act 21 = .ok (.ifnull 12, 3) := by decide +kernel
theorem dX5_act_24 : decode cX5_act 24 = .ok (.iload_n 2, 1) := by decide +kernel
theorem dX5_act_25 : decode cX5_act 25 = .ok (.ifCond .lt 8, 3) := by decide +kernel
theorem dX5_act_28 : decode cX5_act 28 = .ok (.iload_n 2, 1) := by decide +kernel
theorem dX5_act_29 : decode cX5_act 29 = .ok (.iconst 3, 1) := by decide +kernel
theorem dX5_act_30 : decode cX5_act 30 = .ok (.if_icmp .le 5, 3) := by decide +kernel
theorem dX5_act_33 : decode cX5_act 33 = .ok (.iconst (-1), 1) := by decide +kernel
theorem dX5_act_34 : decode cX5_act 34 = .ok (.ireturn, 1) := by decide +kernel
theorem dX5_act_35 : decode cX5_act 35 = .ok (.aload 4, 2) := by decide +kernel
theorem dX5_act_37 : decode cX5_act 37 = .ok (.aload 5, 2) := by decide +kernel
theorem dX5_act_39 : decode cX5_act 39 = .ok (.invokestatic 137, 3) := by decide +kernel
theorem dX5_act_42 : decode cX5_act 42 = .ok (.ifCond .ne 6, 3) := by decide +kernel
theorem dX5_act_45 : decode cX5_act 45 = .ok (.bipush (-10), 2) := by decide +kernel
theorem dX5_act_47 : decode cX5_act 47 = .ok (.ireturn, 1) := by decide +kernel
theorem dX5_act_48 : decode cX5_act 48 = .ok (.iload_n 2, 1) := by decide +kernel
theorem dX5_act_49 : decode cX5_act 49 = .ok (.lookupswitch 39 #[(0, 27), (1, 33)], 27) := by decide +kernel
theorem dX5_act_76 : decode cX5_act 76 = .ok (.aload 5, 2) := by decide +kernel
theorem dX5_act_78 : decode cX5_act 78 = .ok (.invokestatic 141, 3) := by decide +kernel
theorem dX5_act_81 : decode cX5_act 81 = .ok (.ireturn, 1) := by decide +kernel
theorem dX5_act_82 : decode cX5_act 82 = .ok (.aload 5, 2) := by decide +kernel
theorem dX5_act_84 : decode cX5_act 84 = .ok (.invokestatic 145, 3) := by decide +kernel
theorem dX5_act_87 : decode cX5_act 87 = .ok (.ireturn, 1) := by decide +kernel
theorem dX5_act_88 : decode cX5_act 88 = .ok (.aload_n 0, 1) := by decide +kernel
theorem dX5_act_89 : decode cX5_act 89 = .ok (.aload 4, 2) := by decide +kernel
theorem dX5_act_91 : decode cX5_act 91 = .ok (.aload 5, 2) := by decide +kernel
theorem dX5_act_93 : decode cX5_act 93 = .ok (.iload_n 2, 1) := by decide +kernel
theorem dX5_act_94 : decode cX5_act 94 = .ok (.iconst 2, 1) := by decide +kernel
theorem dX5_act_95 : decode cX5_act 95 = .ok (.if_icmp .ne 7, 3) := by decide +kernel
theorem dX5_act_98 : decode cX5_act 98 = .ok (.iconst 1, 1) := by decide +kernel
theorem dX5_act_99 : decode cX5_act 99 = .ok (.goto 4, 3) := by decide +kernel
theorem dX5_act_102 : decode cX5_act 102 = .ok (.iconst 0, 1) := by decide +kernel
theorem dX5_act_103 : decode cX5_act 103 = .ok (.invokevirtual 148, 3) := by decide +kernel
theorem dX5_act_106 : decode cX5_act 106 = .ok (.ireturn, 1) := by decide +kernel
theorem dX5_handle_0 : decode cX5_handle 0 = .ok (.aload_n 0, 1) := by decide +kernel
theorem dX5_handle_1 : decode cX5_handle 1 = .ok (.iload_n 1, 1) := by decide +kernel
theorem dX5_handle_2 : decode cX5_handle 2 = .ok (.invokevirtual 133, 3) := by decide +kernel
theorem dX5_handle_5 : decode cX5_handle 5 = .ok (.astore 4, 2) := by decide +kernel
theorem dX5_handle_7 : decode cX5_handle 7 = .ok (.aload_n 0, 1) := by decide +kernel
theorem dX5_handle_8 : decode cX5_handle 8 = .ok (.iload_n 3, 1) := by decide +kernel
theorem dX5_handle_9 : decode cX5_handle 9 = .ok (.invokevirtual 105, 3) := by decide +kernel
theorem dX5_handle_12 : decode cX5_handle 12 = .ok (.astore 5, 2) := by decide +kernel
theorem dX5_handle_14 : decode cX5_handle 14 = .ok (.aload 4, 2) := by decide +kernel
theorem dX5_handle_16 : decode cX5_handle 16 = .ok (.ifnull 17, 3) := by decide +kernel
theorem dX5_handle_19 : decode cX5_handle 19 = .ok (.aload 5, 2) := by decide +kernel
theorem dX5_handle_21 : decode cX5_handle 21 = .ok (.ifnull 12, 3) := by decide +kernel
theorem dX5_handle_24 : decode cX5_handle 24 = .ok (.iload_n 2, 1) := by decide +kernel
theorem dX5_handle_25 : decode cX5_handle 25 = .ok (.ifCond .lt 8, 3) := by decide +kernel
theorem dX5_handle_28 : decode cX5_handle 28 = .ok (.iload_n 2, 1) := by decide +kernel
theorem dX5_handle_29 : decode cX5_handle 29 = .ok (.iconst 4, 1) := by decide +kernel
theorem dX5_handle_30 : decode cX5_handle 30 = .ok (.if_icmp .le 5, 3) := by decide +kernel
theorem dX5_handle_33 : decode cX5_handle 33 = .ok (.iconst (-1), 1) := by decide +kernel
theorem dX5_handle_34 : decode cX5_handle 34 = .ok (.ireturn, 1) := by decide +kernel
theorem dX5_handle_35 : decode cX5_handle 35 = .ok (.iload_n 2, 1) := by decide +kernel
theorem dX5_handle_36 : decode cX5_handle 36 = .ok (.iconst 1, 1) := by decide +kernel
theorem dX5_handle_37 : decode cX5_handle 37 = .ok (.if_icmp .ne 11, 3) := by decide +kernel
theorem dX5_handle_40 : decode cX5_handle 40 = .ok (.aload 4, 2) := by decide +kernel
theorem dX5_handle_42 : decode cX5_handle 42 = .ok (.aload 5, 2) := by decide +kernel
theorem dX5_handle_44 : decode cX5_handle 44 = .ok (.invokestatic 152, 3) := by decide +kernel
theorem dX5_handle_47 : decode cX5_handle 47 = .ok (.ireturn, 1) := by decide +kernel
theorem dX5_handle_48 : decode cX5_handle 48 = .ok (.aload_n 0, 1) := by decide +kernel
theorem dX5_handle_49 : decode cX5_handle 49 = .ok (.aload 4, 2) := by decide +kernel
theorem dX5_handle_51 : decode cX5_handle 51 = .ok (.aload 5, 2) := by decide +kernel
theorem dX5_handle_53 : decode cX5_handle 53 = .ok (.invokevirtual 156, 3) := by decide +kernel
theorem dX5_handle_56 : decode cX5_handle 56 = .ok (.ifCond .ne 6, 3) := by decide +kernel
theorem dX5_handle_59 : decode cX5_handle 59 = .ok (.bipush (-10), 2) := by decide +kernel
theorem dX5_handle_61 : decode cX5_handle 61 = .ok (.ireturn, 1) := by decide +kernel
theorem dX5_handle_62 : decode cX5_handle 62 = .ok (.iload_n 2, 1) := by decide +kernel
theorem dX5_handle_63 : decode cX5_handle 63 = .ok (.lookupswitch 41 #[(0, 25), (2, 33)], 25) := by decide +kernel
theorem dX5_handle_88 : decode cX5_handle 88 = .ok (.aload 4, 2) := by decide +kernel
theorem dX5_handle_90 : decode cX5_handle 90 = .ok (.aload 5, 2) := by decide +kernel
theorem dX5_handle_92 : decode cX5_handle 92 = .ok (.invokestatic 160, 3) := by decide +kernel
theorem dX5_handle_95 : decode cX5_handle 95 = .ok (.ireturn, 1) := by decide +kernel
theorem dX5_handle_96 : decode cX5_handle 96 = .ok (.aload 4, 2) := by decide +kernel
theorem dX5_handle_98 : decode cX5_handle 98 = .ok (.aload 5, 2) := by decide +kernel
theorem dX5_handle_100 : decode cX5_handle 100 = .ok (.invokestatic 163, 3) := by decide +kernel
theorem dX5_handle_103 : decode cX5_handle 103 = .ok (.ireturn, 1) := by decide +kernel
theorem dX5_handle_104 : decode cX5_handle 104 = .ok (.aload 5, 2) := by decide +kernel
theorem dX5_handle_106 : decode cX5_handle 106 = .ok (.iload_n 2, 1) := by decide +kernel
theorem dX5_handle_107 : decode cX5_handle 107 = .ok (.iconst 4, 1) := by decide +kernel
theorem dX5_handle_108 : decode cX5_handle 108 = .ok (.if_icmp .ne 7, 3) := by decide +kernel
theorem dX5_handle_111 : decode cX5_handle 111 = .ok (.iconst 1, 1) := by decide +kernel
theorem dX5_handle_112 : decode cX5_handle 112 = .ok (.goto 4, 3) := by decide +kernel
theorem dX5_handle_115 : decode cX5_handle 115 = .ok (.iconst 0, 1) := by decide +kernel
theorem dX5_handle_116 : decode cX5_handle 116 = .ok (.invokestatic 166, 3) := by decide +kernel
theorem dX5_handle_119 : decode cX5_handle 119 = .ok (.ireturn, 1) := by decide +kernel
theorem dX5_leave_0 : decode cX5_leave 0 = .ok (.aload_n 0, 1) := by decide +kernel
theorem dX5_leave_1 : decode cX5_leave 1 = .ok (.iload_n 1, 1) := by decide +kernel
theorem dX5_leave_2 : decode cX5_leave 2 = .ok (.invokevirtual 133, 3) := by decide +kernel
theorem dX5_leave_5 : decode cX5_leave 5 = .ok (.astore_n 2, 1) := by decide +kernel
theorem dX5_leave_6 : decode cX5_leave 6 = .ok (.aload_n 2, 1) := by decide +kernel
theorem dX5_leave_7 : decode cX5_leave 7 = .ok (.ifnonnull 5, 3) := by decide +kernel
theorem dX5_leave_10 : decode cX5_leave 10 = .ok (.iconst (-1), 1) := by decide +kernel
theorem dX5_leave_11 : decode cX5_leave 11 = .ok (.ireturn, 1) := by decide +kernel
theorem dX5_leave_12 : decode cX5_leave 12 = .ok (.aload_n 2, 1) := by decide +kernel
theorem dX5_leave_13 : decode cX5_leave 13 = .ok (.getfield 170, 3) := by decide +kernel
theorem dX5_leave_16 : decode cX5_leave 16 = .ok (.ifnonnull 6, 3) := by decide +kernel
theorem dX5_leave_19 : decode cX5_leave 19 = .ok (.bipush (-23), 2) := by decide +kernel
theorem dX5_leave_21 : decode cX5_leave 21 = .ok (.ireturn, 1) := by decide +kernel
theorem dX5_leave_22 : decode cX5_leave 22 = .ok (.aload_n 2, 1) := by decide +kernel
theorem dX5_leave_23 : decode cX5_leave 23 = .ok (.getfield 170, 3) := by decide +kernel
theorem dX5_leave_26 : decode cX5_leave 26 = .ok (.getfield 173, 3) := by decide +kernel
theorem dX5_leave_29 : decode cX5_leave 29 = .ok (.ifCond .eq 6, 3) := by decide +kernel
theorem dX5_leave_32 : decode cX5_leave 32 = .ok (.bipush (-21), 2) := by decide +kernel
theorem dX5_leave_34 : decode cX5_leave 34 = .ok (.ireturn, 1) := by decide +kernel
theorem dX5_leave_35 : decode cX5_leave 35 = .ok (.aload_n 2, 1) := by decide +kernel
theorem dX5_leave_36 : decode cX5_leave 36 = .ok (.aconst_null, 1) := by decide +kernel
theorem dX5_leave_37 : decode cX5_leave 37 = .ok (.putfield 170, 3) := by decide +kernel
theorem dX5_leave_40 : decode cX5_leave 40 = .ok (.iconst 1, 1) := by decide +kernel
theorem dX5_leave_41 : decode cX5_leave 41 = .ok (.ireturn, 1) := by decide +kernel
theorem dX5_go_0 : decode cX5_go 0 = .ok (.aload_n 0, 1) := by decide +kernel
theorem dX5_go_1 : decode cX5_go 1 = .ok (.iload_n 1, 1) := by decide +kernel
theorem dX5_go_2 : decode cX5_go 2 = .ok (.invokevirtual 133, 3) := by decide +kernel
theorem dX5_go_5 : decode cX5_go 5 = .ok (.astore_n 3, 1) := by decide +kernel
theorem dX5_go_6 : decode cX5_go 6 = .ok (.aload_n 3, 1) := by decide +kernel
theorem dX5_go_7 : decode cX5_go 7 = .ok (.ifnull 10, 3) := by decide +kernel
theorem dX5_go_10 : decode cX5_go 10 = .ok (.iload_n 2, 1) := by decide +kernel
theorem dX5_go_11 : decode cX5_go 11 = .ok (.invokestatic 176, 3) := by decide +kernel
theorem dX5_go_14 : decode cX5_go 14 = .ok (.ifCond .ne 5, 3) := by decide +kernel
theorem dX5_go_17 : decode cX5_go 17 = .ok (.iconst (-1), 1) := by decide +kernel
theorem dX5_go_18 : decode cX5_go 18 = .ok (.ireturn, 1) := by decide +kernel
theorem dX5_go_19 : decode cX5_go 19 = .ok (.aload_n 0, 1) := by decide +kernel
theorem dX5_go_20 : decode cX5_go 20 = .ok (.aload_n 3, 1) := by decide +kernel
theorem dX5_go_21 : decode cX5_go 21 = .ok (.iload_n 2, 1) := by decide +kernel
theorem dX5_go_22 : decode cX5_go 22 = .ok (.invokevirtual 179, 3) := by decide +kernel
theorem dX5_go_25 : decode cX5_go 25 = .ok (.ireturn, 1) := by decide +kernel
theorem dX5_push_0 : decode cX5_push 0 = .ok (.aload_n 0, 1) := by decide +kernel
theorem dX5_push_1 : decode cX5_push 1 = .ok (.iload_n 1, 1) := by decide +kernel
theorem dX5_push_2 : decode cX5_push 2 = .ok (.invokevirtual 133, 3) := by decide +kernel
theorem dX5_push_5 : decode cX5_push 5 = .ok (.astore 4, 2) := by decide +kernel
theorem dX5_push_7 : decode cX5_push 7 = .ok (.aload_n 0, 1) := by decide +kernel
theorem dX5_push_8 : decode cX5_push 8 = .ok (.iload_n 2, 1) := by decide +kernel
theorem dX5_push_9 : decode cX5_push 9 = .ok (.invokevirtual 105, 3) := by decide +kernel
theorem dX5_push_12 : decode cX5_push 12 = .ok (.astore 5, 2) := by decide +kernel
theorem dX5_push_14 : decode cX5_push 14 = .ok (.aload 4, 2) := by decide +kernel
theorem dX5_push_16 : decode cX5_push 16 = .ok (.ifnull 15, 3) := by decide +kernel
theorem dX5_push_19 : decode cX5_push 19 = .ok (.aload 5, 2) := by decide +kernel
theorem dX5_push_21 : decode cX5_push 21 = .ok (.ifnull 10, 3) := by decide +kernel
theorem dX5_push_24 : decode cX5_push 24 = .ok (.iload_n 3, 1) := by decide +kernel
theorem dX5_push_25 : decode cX5_push 25 = .ok (.invokestatic 176, 3) := by decide +kernel
theorem dX5_push_28 : decode cX5_push 28 = .ok (.ifCond .ne 5, 3) := by decide +kernel
theorem dX5_push_31 : decode cX5_push 31 = .ok (.iconst (-1), 1) := by decide +kernel
theorem dX5_push_32 : decode cX5_push 32 = .ok (.ireturn, 1) := by decide +kernel
theorem dX5_push_33 : decode cX5_push 33 = .ok (.aload_n 0, 1) := by decide +kernel
theorem dX5_push_34 : decode cX5_push 34 = .ok (.aload 4, 2) := by decide +kernel
theorem dX5_push_36 : decode cX5_push 36 = .ok (.aload 5, 2) := by decide +kernel
theorem dX5_push_38 : decode cX5_push 38 = .ok (.invokevirtual 156, 3) := by decide +kernel
theorem dX5_push_41 : decode cX5_push 41 = .ok (.ifCond .ne 6, 3) := by decide +kernel
theorem dX5_push_44 : decode cX5_push 44 = .ok (.bipush (-10), 2) := by decide +kernel
theorem dX5_push_46 : decode cX5_push 46 = .ok (.ireturn, 1) := by decide +kernel
theorem dX5_push_47 : decode cX5_push 47 = .ok (.aload 5, 2) := by decide +kernel
theorem dX5_push_49 : decode cX5_push 49 = .ok (.getfield 109, 3) := by decide +kernel
theorem dX5_push_52 : decode cX5_push 52 = .ok (.ifCond .eq 12, 3) := by decide +kernel
theorem dX5_push_55 : decode cX5_push 55 = .ok (.aload 5, 2) := by decide +kernel
theorem dX5_push_57 : decode cX5_push 57 = .ok (.getfield 126, 3) := by decide +kernel
theorem dX5_push_60 : decode cX5_push 60 = .ok (.iconst (-1), 1) := by decide +kernel
theorem dX5_push_61 : decode cX5_push 61 = .ok (.if_icmp .eq 6, 3) := by decide +kernel
theorem dX5_push_64 : decode cX5_push 64 = .ok (.bipush (-30), 2) := by decide +kernel
theorem dX5_push_66 : decode cX5_push 66 = .ok (.ireturn, 1) := by decide +kernel
theorem dX5_push_67 : decode cX5_push 67 = .ok (.aload 4, 2) := by decide +kernel
theorem dX5_push_69 : decode cX5_push 69 = .ok (.getfield 170, 3) := by decide +kernel
theorem dX5_push_72 : decode cX5_push 72 = .ok (.ifnull 6, 3) := by decide +kernel
theorem dX5_push_75 : decode cX5_push 75 = .ok (.bipush (-20), 2) := by decide +kernel
theorem dX5_push_77 : decode cX5_push 77 = .ok (.ireturn, 1) := by decide +kernel
theorem dX5_push_78 : decode cX5_push 78 = .ok (.aload_n 0, 1) := by decide +kernel
theorem dX5_push_79 : decode cX5_push 79 = .ok (.aload 4, 2) := by decide +kernel
theorem dX5_push_81 : decode cX5_push 81 = .ok (.aload 5, 2) := by decide +kernel
theorem dX5_push_83 : decode cX5_push 83 = .ok (.iload_n 3, 1) := by decide +kernel
theorem dX5_push_84 : decode cX5_push 84 = .ok (.invokevirtual 183, 3) := by decide +kernel
theorem dX5_push_87 : decode cX5_push 87 = .ok (.ireturn, 1) := by decide +kernel
theorem dX5_back_0 : decode cX5_back 0 = .ok (.aload_n 0, 1) := by decide +kernel
theorem dX5_back_1 : decode cX5_back 1 = .ok (.iload_n 1, 1) := by decide +kernel
theorem dX5_back_2 : decode cX5_back 2 = .ok (.invokevirtual 133, 3) := by decide +kernel
theorem dX5_back_5 : decode cX5_back 5 = .ok (.astore_n 2, 1) := by decide +kernel
theorem dX5_back_6 : decode cX5_back 6 = .ok (.aload_n 2, 1) := by decide +kernel
theorem dX5_back_7 : decode cX5_back 7 = .ok (.ifnonnull 5, 3) := by decide +kernel
theorem dX5_back_10 : decode cX5_back 10 = .ok (.iconst (-1), 1) := by decide +kernel
theorem dX5_back_11 : decode cX5_back 11 = .ok (.ireturn, 1) := by decide +kernel
theorem dX5_back_12 : decode cX5_back 12 = .ok (.aload_n 0, 1) := by decide +kernel
theorem dX5_back_13 : decode cX5_back 13 = .ok (.aload_n 2, 1) := by decide +kernel
theorem dX5_back_14 : decode cX5_back 14 = .ok (.invokevirtual 187, 3) := by decide +kernel
theorem dX5_back_17 : decode cX5_back 17 = .ok (.istore_n 3, 1) := by decide +kernel
theorem dX5_back_18 : decode cX5_back 18 = .ok (.iload_n 3, 1) := by decide +kernel
theorem dX5_back_19 : decode cX5_back 19 = .ok (.iconst (-1), 1) := by decide +kernel
theorem dX5_back_20 : decode cX5_back 20 = .ok (.if_icmp .ne 7, 3) := by decide +kernel
theorem dX5_back_23 : decode cX5_back 23 = .ok (.iconst 0, 1) := by decide +kernel
theorem dX5_back_24 : decode cX5_back 24 = .ok (.goto 9, 3) := by decide +kernel
theorem dX5_back_27 : decode cX5_back 27 = .ok (.aload_n 0, 1) := by decide +kernel
theorem dX5_back_28 : decode cX5_back 28 = .ok (.aload_n 2, 1) := by decide +kernel
theorem dX5_back_29 : decode cX5_back 29 = .ok (.iload_n 3, 1) := by decide +kernel
theorem dX5_back_30 : decode cX5_back 30 = .ok (.invokevirtual 179, 3) := by decide +kernel
theorem dX5_back_33 : decode cX5_back 33 = .ok (.ireturn, 1) := by decide +kernel
theorem dX5_follow_0 : decode cX5_follow 0 = .ok (.aload_n 0, 1) := by decide +kernel
theorem dX5_follow_1 : decode cX5_follow 1 = .ok (.iload_n 1, 1) := by decide +kernel
theorem dX5_follow_2 : decode cX5_follow 2 = .ok (.invokevirtual 133, 3) := by decide +kernel
theorem dX5_follow_5 : decode cX5_follow 5 = .ok (.astore_n 3, 1) := by decide +kernel
theorem dX5_follow_6 : decode cX5_follow 6 = .ok (.aload_n 0, 1) := by decide +kernel
theorem dX5_follow_7 : decode cX5_follow 7 = .ok (.iload_n 2, 1) := by decide +kernel
theorem dX5_follow_8 : decode cX5_follow 8 = .ok (.invokevirtual 133, 3) := by decide +kernel
theorem dX5_follow_11 : decode cX5_follow 11 = .ok (.astore 4, 2) := by decide +kernel
theorem dX5_follow_13 : decode cX5_follow 13 = .ok (.aload_n 3, 1) := by decide +kernel
theorem dX5_follow_14 : decode cX5_follow 14 = .ok (.ifnull 8, 3) := by decide +kernel
theorem dX5_follow_17 : decode cX5_follow 17 = .ok (.aload 4, 2) := by decide +kernel
theorem dX5_follow_19 : decode cX5_follow 19 = .ok (.ifnonnull 5, 3) := by decide +kernel
theorem dX5_follow_22 : decode cX5_follow 22 = .ok (.iconst (-1), 1) := by decide +kernel
theorem dX5_follow_23 : decode cX5_follow 23 = .ok (.ireturn, 1) := by decide +kernel
theorem dX5_follow_24 : decode cX5_follow 24 = .ok (.aload_n 3, 1) := by decide +kernel
theorem dX5_follow_25 : decode cX5_follow 25 = .ok (.getfield 191, 3) := by decide +kernel
theorem dX5_follow_28 : decode cX5_follow 28 = .ok (.aload 4, 2) := by decide +kernel
theorem dX5_follow_30 : decode cX5_follow 30 = .ok (.getfield 191, 3) := by decide +kernel
theorem dX5_follow_33 : decode cX5_follow 33 = .ok (.if_icmp .ne 8, 3) := by decide +kernel
theorem dX5_follow_36 : decode cX5_follow 36 = .ok (.aload_n 3, 1) := by decide +kernel
theorem dX5_follow_37 : decode cX5_follow 37 = .ok (.getfield 191, 3) := by decide +kernel
theorem dX5_follow_40 : decode cX5_follow 40 = .ok (.ireturn, 1) := by decide +kernel
theorem dX5_follow_41 : decode cX5_follow 41 = .ok (.aload_n 0, 1) := by decide +kernel
theorem dX5_follow_42 : decode cX5_follow 42 = .ok (.aload_n 3, 1) := by decide +kernel
theorem dX5_follow_43 : decode cX5_follow 43 = .ok (.getfield 191, 3) := by decide +kernel
theorem dX5_follow_46 : decode cX5_follow 46 = .ok (.invokevirtual 194, 3) := by decide +kernel
theorem dX5_follow_49 : decode cX5_follow 49 = .ok (.aload_n 0, 1) := by decide +kernel
theorem dX5_follow_50 : decode cX5_follow 50 = .ok (.getfield 46, 3) := by decide +kernel
theorem dX5_follow_53 : decode cX5_follow 53 = .ok (.aload 4, 2) := by decide +kernel
theorem dX5_follow_55 : decode cX5_follow 55 = .ok (.getfield 191, 3) := by decide +kernel
