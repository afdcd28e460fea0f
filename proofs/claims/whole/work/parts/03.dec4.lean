theorem dX6_being_48 : decode cX6_being 48 = .ok (.getfield 53, 3) := by decide +kernel
theorem dX6_being_51 : decode cX6_being 51 = .ok (.aload_n 0, 1) := by decide +kernel
theorem dX6_being_52 : decode cX6_being 52 = .ok (.getfield 94, 3) := by decide +kernel
theorem dX6_being_55 : decode cX6_being 55 = .ok (.iconst (-1), 1) := by decide +kernel
theorem dX6_being_56 : decode cX6_being 56 = .ok (.iastore, 1) := by decide +kernel
theorem dX6_being_57 : decode cX6_being 57 = .ok (.aload_n 0, 1) := by decide +kernel
theorem dX6_being_58 : decode cX6_being 58 = .ok (.dup, 1) := by decide +kernel
theorem dX6_being_59 : decode cX6_being 59 = .ok (.getfield 94, 3) := by decide +kernel
theorem dX6_being_62 : decode cX6_being 62 = .ok (.iconst 1, 1) := by decide +kernel
theorem dX6_being_63 : decode cX6_being 63 = .ok (.iadd, 1) := by decide +kernel
theorem dX6_being_64 : decode cX6_being 64 = .ok (.putfield 94, 3) := by decide +kernel
theorem dX6_being_67 : decode cX6_being 67 = .ok (.aload_n 0, 1) := by decide +kernel
theorem dX6_being_68 : decode cX6_being 68 = .ok (.getfield 94, 3) := by decide +kernel
theorem dX6_being_71 : decode cX6_being 71 = .ok (.iconst 1, 1) := by decide +kernel
theorem dX6_being_72 : decode cX6_being 72 = .ok (.isub, 1) := by decide +kernel
theorem dX6_being_73 : decode cX6_being 73 = .ok (.ireturn, 1) := by decide +kernel
theorem dX6_isShutIn_0 : decode cX6_isShutIn 0 = .ok (.aload_n 0, 1) := by decide +kernel
theorem dX6_isShutIn_1 : decode cX6_isShutIn 1 = .ok (.getfield 50, 3) := by decide +kernel
theorem dX6_isShutIn_4 : decode cX6_isShutIn 4 = .ok (.iload_n 1, 1) := by decide +kernel
theorem dX6_isShutIn_5 : decode cX6_isShutIn 5 = .ok (.iaload, 1) := by decide +kernel
theorem dX6_isShutIn_6 : decode cX6_isShutIn 6 = .ok (.ifCond .lt 21, 3) := by decide +kernel
theorem dX6_isShutIn_9 : decode cX6_isShutIn 9 = .ok (.aload_n 0, 1) := by decide +kernel
theorem dX6_isShutIn_10 : decode cX6_isShutIn 10 = .ok (.getfield 44, 3) := by decide +kernel
theorem dX6_isShutIn_13 : decode cX6_isShutIn 13 = .ok (.aload_n 0, 1) := by decide +kernel
theorem dX6_isShutIn_14 : decode cX6_isShutIn 14 = .ok (.getfield 50, 3) := by decide +kernel
theorem dX6_isShutIn_17 : decode cX6_isShutIn 17 = .ok (.iload_n 1, 1) := by decide +kernel
theorem dX6_isShutIn_18 : decode cX6_isShutIn 18 = .ok (.iaload, 1) := by decide +kernel
theorem dX6_isShutIn_19 : decode cX6_isShutIn 19 = .ok (.baload, 1) := by decide +kernel
theorem dX6_isShutIn_20 : decode cX6_isShutIn 20 = .ok (.ifCond .eq 7, 3) := by decide +kernel
theorem dX6_isShutIn_23 : decode cX6_isShutIn 23 = .ok (.iconst 1, 1) := by decide +kernel
theorem dX6_isShutIn_24 : decode cX6_isShutIn 24 = .ok (.goto 4, 3) := by decide +kernel
theorem dX6_isShutIn_27 : decode cX6_isShutIn 27 = .ok (.iconst 0, 1) := by decide +kernel
theorem dX6_isShutIn_28 : decode cX6_isShutIn 28 = .ok (.ireturn, 1) := by decide +kernel
theorem dX6_isThingIn_0 : decode cX6_isThingIn 0 = .ok (.aload_n 0, 1) := by decide +kernel
theorem dX6_isThingIn_1 : decode cX6_isThingIn 1 = .ok (.getfield 41, 3) := by decide +kernel
theorem dX6_isThingIn_4 : decode cX6_isThingIn 4 = .ok (.iload_n 1, 1) := by decide +kernel
theorem dX6_isThingIn_5 : decode cX6_isThingIn 5 = .ok (.iaload, 1) := by decide +kernel
theorem dX6_isThingIn_6 : decode cX6_isThingIn 6 = .ok (.ifCond .lt 22, 3) := by decide +kernel
theorem dX6_isThingIn_9 : decode cX6_isThingIn 9 = .ok (.aload_n 0, 1) := by decide +kernel
theorem dX6_isThingIn_10 : decode cX6_isThingIn 10 = .ok (.getfield 71, 3) := by decide +kernel
theorem dX6_isThingIn_13 : decode cX6_isThingIn 13 = .ok (.bipush 20, 2) := by decide +kernel
theorem dX6_isThingIn_15 : decode cX6_isThingIn 15 = .ok (.aload_n 0, 1) := by decide +kernel
theorem dX6_isThingIn_16 : decode cX6_isThingIn 16 = .ok (.getfield 41, 3) := by decide +kernel
theorem dX6_isThingIn_19 : decode cX6_isThingIn 19 = .ok (.iload_n 1, 1) := by decide +kernel
theorem dX6_isThingIn_20 : decode cX6_isThingIn 20 = .ok (.iaload, 1) := by decide +kernel
theorem dX6_isThingIn_21 : decode cX6_isThingIn 21 = .ok (.imul, 1) := by decide +kernel
theorem dX6_isThingIn_22 : decode cX6_isThingIn 22 = .ok (.iload_n 2, 1) := by decide +kernel
theorem dX6_isThingIn_23 : decode cX6_isThingIn 23 = .ok (.iadd, 1) := by decide +kernel
theorem dX6_isThingIn_24 : decode cX6_isThingIn 24 = .ok (.baload, 1) := by decide +kernel
theorem dX6_isThingIn_25 : decode cX6_isThingIn 25 = .ok (.goto 18, 3) := by decide +kernel
theorem dX6_isThingIn_28 : decode cX6_isThingIn 28 = .ok (.aload_n 0, 1) := by decide +kernel
theorem dX6_isThingIn_29 : decode cX6_isThingIn 29 = .ok (.getfield 38, 3) := by decide +kernel
theorem dX6_isThingIn_32 : decode cX6_isThingIn 32 = .ok (.iload_n 1, 1) := by decide +kernel
theorem dX6_isThingIn_33 : decode cX6_isThingIn 33 = .ok (.iaload, 1) := by decide +kernel
theorem dX6_isThingIn_34 : decode cX6_isThingIn 34 = .ok (.iload_n 2, 1) := by decide +kernel
theorem dX6_isThingIn_35 : decode cX6_isThingIn 35 = .ok (.if_icmp .ne 7, 3) := by decide +kernel
theorem dX6_isThingIn_38 : decode cX6_isThingIn 38 = .ok (.iconst 1, 1) := by decide +kernel
theorem dX6_isThingIn_39 : decode cX6_isThingIn 39 = .ok (.goto 4, 3) := by decide +kernel
theorem dX6_isThingIn_42 : decode cX6_isThingIn 42 = .ok (.iconst 0, 1) := by decide +kernel
theorem dX6_isThingIn_43 : decode cX6_isThingIn 43 = .ok (.ireturn, 1) := by decide +kernel
theorem dX6_holds_0 : decode cX6_holds 0 = .ok (.aload_n 0, 1) := by decide +kernel
theorem dX6_holds_1 : decode cX6_holds 1 = .ok (.getfield 41, 3) := by decide +kernel
theorem dX6_holds_4 : decode cX6_holds 4 = .ok (.iload_n 2, 1) := by decide +kernel
theorem dX6_holds_5 : decode cX6_holds 5 = .ok (.iaload, 1) := by decide +kernel
theorem dX6_holds_6 : decode cX6_holds 6 = .ok (.ifCond .ge 20, 3) := by decide +kernel
theorem dX6_holds_9 : decode cX6_holds 9 = .ok (.aload_n 0, 1) := by decide +kernel
theorem dX6_holds_10 : decode cX6_holds 10 = .ok (.getfield 38, 3) := by decide +kernel
theorem dX6_holds_13 : decode cX6_holds 13 = .ok (.iload_n 2, 1) := by decide +kernel
theorem dX6_holds_14 : decode cX6_holds 14 = .ok (.iaload, 1) := by decide +kernel
theorem dX6_holds_15 : decode cX6_holds 15 = .ok (.bipush 100, 2) := by decide +kernel
theorem dX6_holds_17 : decode cX6_holds 17 = .ok (.iload_n 1, 1) := by decide +kernel
theorem dX6_holds_18 : decode cX6_holds 18 = .ok (.iadd, 1) := by decide +kernel
theorem dX6_holds_19 : decode cX6_holds 19 = .ok (.if_icmp .ne 7, 3) := by decide +kernel
theorem dX6_holds_22 : decode cX6_holds 22 = .ok (.iconst 1, 1) := by decide +kernel
theorem dX6_holds_23 : decode cX6_holds 23 = .ok (.goto 4, 3) := by decide +kernel
theorem dX6_holds_26 : decode cX6_holds 26 = .ok (.iconst 0, 1) := by decide +kernel
theorem dX6_holds_27 : decode cX6_holds 27 = .ok (.ireturn, 1) := by decide +kernel
theorem dX6_hasThing_0 : decode cX6_hasThing 0 = .ok (.aload_n 0, 1) := by decide +kernel
theorem dX6_hasThing_1 : decode cX6_hasThing 1 = .ok (.iload_n 1, 1) := by decide +kernel
theorem dX6_hasThing_2 : decode cX6_hasThing 2 = .ok (.iload_n 2, 1) := by decide +kernel
theorem dX6_hasThing_3 : decode cX6_hasThing 3 = .ok (.invokevirtual 114, 3) := by decide +kernel
theorem dX6_hasThing_6 : decode cX6_hasThing 6 = .ok (.ifCond .ne 38, 3) := by decide +kernel
theorem dX6_hasThing_9 : decode cX6_hasThing 9 = .ok (.aload_n 0, 1) := by decide +kernel
theorem dX6_hasThing_10 : decode cX6_hasThing 10 = .ok (.iload_n 1, 1) := by decide +kernel
theorem dX6_hasThing_11 : decode cX6_hasThing 11 = .ok (.invokevirtual 117, 3) := by decide +kernel
theorem dX6_hasThing_14 : decode cX6_hasThing 14 = .ok (.ifCond .eq 16, 3) := by decide +kernel
theorem dX6_hasThing_17 : decode cX6_hasThing 17 = .ok (.aload_n 0, 1) := by decide +kernel
theorem dX6_hasThing_18 : decode cX6_hasThing 18 = .ok (.getfield 50, 3) := by decide +kernel
theorem dX6_hasThing_21 : decode cX6_hasThing 21 = .ok (.iload_n 1, 1) := by decide +kernel
theorem dX6_hasThing_22 : decode cX6_hasThing 22 = .ok (.iaload, 1) := by decide +kernel
theorem dX6_hasThing_23 : decode cX6_hasThing 23 = .ok (.iload_n 2, 1) := by decide +kernel
theorem dX6_hasThing_24 : decode cX6_hasThing 24 = .ok (.if_icmp .ne 24, 3) := by decide +kernel
theorem dX6_hasThing_27 : decode cX6_hasThing 27 = .ok (.goto 17, 3) := by decide +kernel
theorem dX6_hasThing_30 : decode cX6_hasThing 30 = .ok (.aload_n 0, 1) := by decide +kernel
theorem dX6_hasThing_31 : decode cX6_hasThing 31 = .ok (.iload_n 2, 1) := by decide +kernel
theorem dX6_hasThing_32 : decode cX6_hasThing 32 = .ok (.aload_n 0, 1) := by decide +kernel
theorem dX6_hasThing_33 : decode cX6_hasThing 33 = .ok (.getfield 47, 3) := by decide +kernel
theorem dX6_hasThing_36 : decode cX6_hasThing 36 = .ok (.iload_n 1, 1) := by decide +kernel
theorem dX6_hasThing_37 : decode cX6_hasThing 37 = .ok (.iaload, 1) := by decide +kernel
theorem dX6_hasThing_38 : decode cX6_hasThing 38 = .ok (.invokevirtual 120, 3) := by decide +kernel
theorem dX6_hasThing_41 : decode cX6_hasThing 41 = .ok (.ifCond .eq 7, 3) := by decide +kernel
theorem dX6_hasThing_44 : decode cX6_hasThing 44 = .ok (.iconst 1, 1) := by decide +kernel
theorem dX6_hasThing_45 : decode cX6_hasThing 45 = .ok (.goto 4, 3) := by decide +kernel
theorem dX6_hasThing_48 : decode cX6_hasThing 48 = .ok (.iconst 0, 1) := by decide +kernel
theorem dX6_hasThing_49 : decode cX6_hasThing 49 = .ok (.ireturn, 1) := by decide +kernel
theorem dX6_hasDoor_0 : decode cX6_hasDoor 0 = .ok (.aload_n 0, 1) := by decide +kernel
theorem dX6_hasDoor_1 : decode cX6_hasDoor 1 = .ok (.iload_n 1, 1) := by decide +kernel
theorem dX6_hasDoor_2 : decode cX6_hasDoor 2 = .ok (.invokevirtual 117, 3) := by decide +kernel
theorem dX6_hasDoor_5 : decode cX6_hasDoor 5 = .ok (.ifCond .ne 21, 3) := by decide +kernel
theorem dX6_hasDoor_8 : decode cX6_hasDoor 8 = .ok (.aload_n 0, 1) := by decide +kernel
theorem dX6_hasDoor_9 : decode cX6_hasDoor 9 = .ok (.iload_n 2, 1) := by decide +kernel
theorem dX6_hasDoor_10 : decode cX6_hasDoor 10 = .ok (.aload_n 0, 1) := by decide +kernel
theorem dX6_hasDoor_11 : decode cX6_hasDoor 11 = .ok (.getfield 47, 3) := by decide +kernel
theorem dX6_hasDoor_14 : decode cX6_hasDoor 14 = .ok (.iload_n 1, 1) := by decide +kernel
theorem dX6_hasDoor_15 : decode cX6_hasDoor 15 = .ok (.iaload, 1) := by decide +kernel
theorem dX6_hasDoor_16 : decode cX6_hasDoor 16 = .ok (.invokevirtual 104, 3) := by decide +kernel
theorem dX6_hasDoor_19 : decode cX6_hasDoor 19 = .ok (.ifCond .eq 7, 3) := by decide +kernel
theorem dX6_hasDoor_22 : decode cX6_hasDoor 22 = .ok (.iconst 1, 1) := by decide +kernel
theorem dX6_hasDoor_23 : decode cX6_hasDoor 23 = .ok (.goto 4, 3) := by decide +kernel
theorem dX6_hasDoor_26 : decode cX6_hasDoor 26 = .ok (.iconst 0, 1) := by decide +kernel
theorem dX6_hasDoor_27 : decode cX6_hasDoor 27 = .ok (.ireturn, 1) := by decide +kernel
theorem dX6_held_0 : decode cX6_held 0 = .ok (.iconst 0, 1) := by decide +kernel
theorem dX6_held_1 : decode cX6_held 1 = .ok (.istore_n 2, 1) := by decide +kernel
theorem dX6_held_2 : decode cX6_held 2 = .ok (.iconst 0, 1) := by decide +kernel
theorem dX6_held_3 : decode cX6_held 3 = .ok (.istore_n 3, 1) := by decide +kernel
theorem dX6_held_4 : decode cX6_held 4 = .ok (.iload_n 3, 1) := by decide +kernel
theorem dX6_held_5 : decode cX6_held 5 = .ok (.aload_n 0, 1) := by decide +kernel
theorem dX6_held_6 : decode cX6_held 6 = .ok (.getfield 91, 3) := by decide +kernel
theorem dX6_held_9 : decode cX6_held 9 = .ok (.if_icmp .ge 26, 3) := by decide +kernel
theorem dX6_held_12 : decode cX6_held 12 = .ok (.iload_n 2, 1) := by decide +kernel
theorem dX6_held_13 : decode cX6_held 13 = .ok (.aload_n 0, 1) := by decide +kernel
theorem dX6_held_14 : decode cX6_held 14 = .ok (.iload_n 1, 1) := by decide +kernel
theorem dX6_held_15 : decode cX6_held 15 = .ok (.iload_n 3, 1) := by decide +kernel
theorem dX6_held_16 : decode cX6_held 16 = .ok (.invokevirtual 114, 3) := by decide +kernel
theorem dX6_held_19 : decode cX6_held 19 = .ok (.ifCond .eq 7, 3) := by decide +kernel
theorem dX6_held_22 : decode cX6_held 22 = .ok (.iconst 1, 1) := by decide +kernel
theorem dX6_held_23 : decode cX6_held 23 = .ok (.goto 4, 3) := by decide +kernel
theorem dX6_held_26 : decode cX6_held 26 = .ok (.iconst 0, 1) := by decide +kernel
theorem dX6_held_27 : decode cX6_held 27 = .ok (.iadd, 1) := by decide +kernel
theorem dX6_held_28 : decode cX6_held 28 = .ok (.istore_n 2, 1) := by decide +kernel
theorem dX6_held_29 : decode cX6_held 29 = .ok (.iinc 3 1, 3) := by decide +kernel
theorem dX6_held_32 : decode cX6_held 32 = .ok (.goto (-28), 3) := by decide +kernel
theorem dX6_held_35 : decode cX6_held 35 = .ok (.iload_n 2, 1) := by decide +kernel
theorem dX6_held_36 : decode cX6_held 36 = .ok (.ireturn, 1) := by decide +kernel
theorem dX6_here_0 : decode cX6_here 0 = .ok (.aload_n 0, 1) := by decide +kernel
theorem dX6_here_1 : decode cX6_here 1 = .ok (.iconst 0, 1) := by decide +kernel
theorem dX6_here_2 : decode cX6_here 2 = .ok (.putfield 77, 3) := by decide +kernel
theorem dX6_here_5 : decode cX6_here 5 = .ok (.aload_n 0, 1) := by decide +kernel
theorem dX6_here_6 : decode cX6_here 6 = .ok (.iload_n 1, 1) := by decide +kernel
theorem dX6_here_7 : decode cX6_here 7 = .ok (.invokevirtual 123, 3) := by decide +kernel
theorem dX6_here_10 : decode cX6_here 10 = .ok (.ifCond .eq 12, 3) := by decide +kernel
theorem dX6_here_13 : decode cX6_here 13 = .ok (.iload_n 2, 1) := by decide +kernel
theorem dX6_here_14 : decode cX6_here 14 = .ok (.iconst 0, 1) := by decide +kernel
theorem dX6_here_15 : decode cX6_here 15 = .ok (.iconst 2, 1) := by decide +kernel
theorem dX6_here_16 : decode cX6_here 16 = .ok (.invokestatic 84, 3) := by decide +kernel
theorem dX6_here_19 : decode cX6_here 19 = .ok (.ifCond .ne 5, 3) := by decide +kernel
theorem dX6_here_22 : decode cX6_here 22 = .ok (.iconst 0, 1) := by decide +kernel
theorem dX6_here_23 : decode cX6_here 23 = .ok (.ireturn, 1) := by decide +kernel
theorem dX6_here_24 : decode cX6_here 24 = .ok (.iload_n 2, 1) := by decide +kernel
theorem dX6_here_25 : decode cX6_here 25 = .ok (.ifCond .ne 26, 3) := by decide +kernel
theorem dX6_here_28 : decode cX6_here 28 = .ok (.aload_n 0, 1) := by decide +kernel
theorem dX6_here_29 : decode cX6_here 29 = .ok (.iload_n 3, 1) := by decide +kernel
theorem dX6_here_30 : decode cX6_here 30 = .ok (.invokevirtual 101, 3) := by decide +kernel
theorem dX6_here_33 : decode cX6_here 33 = .ok (.ifCond .eq 16, 3) := by decide +kernel
theorem dX6_here_36 : decode cX6_here 36 = .ok (.aload_n 0, 1) := by decide +kernel
theorem dX6_here_37 : decode cX6_here 37 = .ok (.iload_n 1, 1) := by decide +kernel
theorem dX6_here_38 : decode cX6_here 38 = .ok (.iload_n 3, 1) := by decide +kernel
theorem dX6_here_39 : decode cX6_here 39 = .ok (.invokevirtual 126, 3) := by decide +kernel
theorem dX6_here_42 : decode cX6_here 42 = .ok (.ifCond .eq 7, 3) := by decide +kernel
theorem dX6_here_45 : decode cX6_here 45 = .ok (.iconst 1, 1) := by decide +kernel
theorem dX6_here_46 : decode cX6_here 46 = .ok (.goto 4, 3) := by decide +kernel
theorem dX6_here_49 : decode cX6_here 49 = .ok (.iconst 0, 1) := by decide +kernel
theorem dX6_here_50 : decode cX6_here 50 = .ok (.ireturn, 1) := by decide +kernel
theorem dX6_here_51 : decode cX6_here 51 = .ok (.iload_n 2, 1) := by decide +kernel
theorem dX6_here_52 : decode cX6_here 52 = .ok (.iconst 1, 1) := by decide +kernel
theorem dX6_here_53 : decode cX6_here 53 = .ok (.if_icmp .ne 26, 3) := by decide +kernel
theorem dX6_here_56 : decode cX6_here 56 = .ok (.aload_n 0, 1) := by decide +kernel
theorem dX6_here_57 : decode cX6_here 57 = .ok (.iload_n 3, 1) := by decide +kernel
theorem dX6_here_58 : decode cX6_here 58 = .ok (.invokevirtual 111, 3) := by decide +kernel
theorem dX6_here_61 : decode cX6_here 61 = .ok (.ifCond .eq 16, 3) := by decide +kernel
theorem dX6_here_64 : decode cX6_here 64 = .ok (.aload_n 0, 1) := by decide +kernel
theorem dX6_here_65 : decode cX6_here 65 = .ok (.iload_n 1, 1) := by decide +kernel
theorem dX6_here_66 : decode cX6_here 66 = .ok (.iload_n 3, 1) := by decide +kernel
theorem dX6_here_67 : decode cX6_here 67 = .ok (.invokevirtual 129, 3) := by decide +kernel
theorem dX6_here_70 : decode cX6_here 70 = .ok (.ifCond .eq 7, 3) := by decide +kernel
theorem dX6_here_73 : decode cX6_here 73 = .ok (.iconst 1, 1) := by decide +kernel
theorem dX6_here_74 : decode cX6_here 74 = .ok (.goto 4, 3) := by decide +kernel
theorem dX6_here_77 : decode cX6_here 77 = .ok (.iconst 0, 1) := by decide +kernel
theorem dX6_here_78 : decode cX6_here 78 = .ok (.ireturn, 1) := by decide +kernel
theorem dX6_here_79 : decode cX6_here 79 = .ok (.aload_n 0, 1) := by decide +kernel
theorem dX6_here_80 : decode cX6_here 80 = .ok (.iload_n 3, 1) := by decide +kernel
theorem dX6_here_81 : decode cX6_here 81 = .ok (.invokevirtual 123, 3) := by decide +kernel
theorem dX6_here_84 : decode cX6_here 84 = .ok (.ifCond .eq 48, 3) := by decide +kernel
theorem dX6_here_87 : decode cX6_here 87 = .ok (.aload_n 0, 1) := by decide +kernel
theorem dX6_here_88 : decode cX6_here 88 = .ok (.iload_n 1, 1) := by decide +kernel
theorem dX6_here_89 : decode cX6_here 89 = .ok (.invokevirtual 117, 3) := by decide +kernel
theorem dX6_here_92 : decode cX6_here 92 = .ok (.ifCond .eq 21, 3) := by decide +kernel
theorem dX6_here_95 : decode cX6_here 95 = .ok (.aload_n 0, 1) := by decide +kernel
theorem dX6_here_96 : decode cX6_here 96 = .ok (.getfield 50, 3) := by decide +kernel
theorem dX6_here_99 : decode cX6_here 99 = .ok (.iload_n 3, 1) := by decide +kernel
theorem dX6_here_100 : decode cX6_here 100 = .ok (.iaload, 1) := by decide +kernel
theorem dX6_here_101 : decode cX6_here 101 = .ok (.aload_n 0, 1) := by decide +kernel
theorem dX6_here_102 : decode cX6_here 102 = .ok (.getfield 50, 3) := by decide +kernel
theorem dX6_here_105 : decode cX6_here 105 = .ok (.iload_n 1, 1) := by decide +kernel
theorem dX6_here_106 : decode cX6_here 106 = .ok (.iaload, 1) := by decide +kernel
theorem dX6_here_107 : decode cX6_here 107 = .ok (.if_icmp .ne 25, 3) := by decide +kernel
theorem dX6_here_110 : decode cX6_here 110 = .ok (.goto 18, 3) := by decide +kernel
theorem dX6_here_113 : decode cX6_here 113 = .ok (.aload_n 0, 1) := by decide +kernel
theorem dX6_here_114 : decode cX6_here 114 = .ok (.getfield 47, 3) := by decide +kernel
theorem dX6_here_117 : decode cX6_here 117 = .ok (.iload_n 3, 1) := by decide +kernel
theorem dX6_here_118 : decode cX6_here 118 = .ok (.iaload, 1) := by decide +kernel
theorem dX6_here_119 : decode cX6_here 119 = .ok (.aload_n 0, 1) := by decide +kernel
theorem dX6_here_120 : decode cX6_here 120 = .ok (.getfield 47, 3) := by decide +kernel
theorem dX6_here_123 : decode cX6_here 123 = .ok (.iload_n 1, 1) := by decide +kernel
theorem dX6_here_124 : decode cX6_here 124 = .ok (.iaload, 1) := by decide +kernel
theorem dX6_here_125 : decode cX6_here 125 = .ok (.if_icmp .ne 7, 3) := by decide +kernel
theorem dX6_here_128 : decode cX6_here 128 = .ok (.iconst 1, 1) := by decide +kernel
theorem dX6_here_129 : decode cX6_here 129 = .ok (.goto 4, 3) := by decide +kernel
theorem dX6_here_132 : decode cX6_here 132 = .ok (.iconst 0, 1) := by decide +kernel
theorem dX6_here_133 : decode cX6_here 133 = .ok (.ireturn, 1) := by decide +kernel
theorem dX6_holdsOther_0 : decode cX6_holdsOther 0 = .ok (.iconst 0, 1) := by decide +kernel
theorem dX6_holdsOther_1 : decode cX6_holdsOther 1 = .ok (.istore_n 3, 1) := by decide +kernel
theorem dX6_holdsOther_2 : decode cX6_holdsOther 2 = .ok (.iconst 0, 1) := by decide +kernel
theorem dX6_holdsOther_3 : decode cX6_holdsOther 3 = .ok (.istore 4, 2) := by decide +kernel
theorem dX6_holdsOther_5 : decode cX6_holdsOther 5 = .ok (.iload 4, 2) := by decide +kernel
theorem dX6_holdsOther_7 : decode cX6_holdsOther 7 = .ok (.aload_n 0, 1) := by decide +kernel
theorem dX6_holdsOther_8 : decode cX6_holdsOther 8 = .ok (.getfield 88, 3) := by decide +kernel
theorem dX6_holdsOther_11 : decode cX6_holdsOther 11 = .ok (.if_icmp .ge 50, 3) := by decide +kernel
theorem dX6_holdsOther_14 : decode cX6_holdsOther 14 = .ok (.iload_n 3, 1) := by decide +kernel
theorem dX6_holdsOther_15 : decode cX6_holdsOther 15 = .ok (.ifCond .ne 34, 3) := by decide +kernel
theorem dX6_holdsOther_18 : decode cX6_holdsOther 18 = .ok (.iload 4, 2) := by decide +kernel
theorem dX6_holdsOther_20 : decode cX6_holdsOther 20 = .ok (.iload_n 2, 1) := by decide +kernel
theorem dX6_holdsOther_21 : decode cX6_holdsOther 21 = .ok (.if_icmp .eq 32, 3) := by decide +kernel
theorem dX6_holdsOther_24 : decode cX6_holdsOther 24 = .ok (.aload_n 0, 1) := by decide +kernel
theorem dX6_holdsOther_25 : decode cX6_holdsOther 25 = .ok (.getfield 22, 3) := by decide +kernel
theorem dX6_holdsOther_28 : decode cX6_holdsOther 28 = .ok (.iload 4, 2) := by decide +kernel
theorem dX6_holdsOther_30 : decode cX6_holdsOther 30 = .ok (.iaload, 1) := by decide +kernel
theorem dX6_holdsOther_31 : decode cX6_holdsOther 31 = .ok (.ifCond .lt 22, 3) := by decide +kernel
theorem dX6_holdsOther_34 : decode cX6_holdsOther 34 = .ok (.aload_n 0, 1) := by decide +kernel
theorem dX6_holdsOther_35 : decode cX6_holdsOther 35 = .ok (.iload_n 1, 1) := by decide +kernel
theorem dX6_holdsOther_36 : decode cX6_holdsOther 36 = .ok (.aload_n 0, 1) := by decide +kernel
theorem dX6_holdsOther_37 : decode cX6_holdsOther 37 = .ok (.getfield 22, 3) := by decide +kernel
theorem dX6_holdsOther_40 : decode cX6_holdsOther 40 = .ok (.iload 4, 2) := by decide +kernel
theorem dX6_holdsOther_42 : decode cX6_holdsOther 42 = .ok (.iaload, 1) := by decide +kernel
theorem dX6_holdsOther_43 : decode cX6_holdsOther 43 = .ok (.invokevirtual 114, 3) := by decide +kernel
theorem dX6_holdsOther_46 : decode cX6_holdsOther 46 = .ok (.ifCond .eq 7, 3) := by decide +kernel
theorem dX6_holdsOther_49 : decode cX6_holdsOther 49 = .ok (.iconst 1, 1) := by decide +kernel
theorem dX6_holdsOther_50 : decode cX6_holdsOther 50 = .ok (.goto 4, 3) := by decide +kernel
theorem dX6_holdsOther_53 : decode cX6_holdsOther 53 = .ok (.iconst 0, 1) := by decide +kernel
theorem dX6_holdsOther_54 : decode cX6_holdsOther 54 = .ok (.istore_n 3, 1) := by decide +kernel
theorem dX6_holdsOther_55 : decode cX6_holdsOther 55 = .ok (.iinc 4 1, 3) := by decide +kernel
theorem dX6_holdsOther_58 : decode cX6_holdsOther 58 = .ok (.goto (-53), 3) := by decide +kernel
theorem dX6_holdsOther_61 : decode cX6_holdsOther 61 = .ok (.iload_n 3, 1) := by decide +kernel
theorem dX6_holdsOther_62 : decode cX6_holdsOther 62 = .ok (.ireturn, 1) := by decide +kernel
theorem dX6_actText_0 : decode cX6_actText 0 = .ok (.aload_n 0, 1) := by decide +kernel
theorem dX6_actText_1 : decode cX6_actText 1 = .ok (.iload_n 1, 1) := by decide +kernel
theorem dX6_actText_2 : decode cX6_actText 2 = .ok (.iload_n 3, 1) := by decide +kernel
theorem dX6_actText_3 : decode cX6_actText 3 = .ok (.invokevirtual 126, 3) := by decide +kernel
theorem dX6_actText_6 : decode cX6_actText 6 = .ok (.ifCond .ne 6, 3) := by decide +kernel
theorem dX6_actText_9 : decode cX6_actText 9 = .ok (.bipush 10, 2) := by decide +kernel
theorem dX6_actText_11 : decode cX6_actText 11 = .ok (.ireturn, 1) := by decide +kernel
theorem dX6_actText_12 : decode cX6_actText 12 = .ok (.iload_n 2, 1) := by decide +kernel
theorem dX6_actText_13 : decode cX6_actText 13 = .ok (.iconst 2, 1) := by decide +kernel
theorem dX6_actText_14 : decode cX6_actText 14 = .ok (.if_icmp .ge 58, 3) := by decide +kernel
theorem dX6_actText_17 : decode cX6_actText 17 = .ok (.aload_n 0, 1) := by decide +kernel
theorem dX6_actText_18 : decode cX6_actText 18 = .ok (.getfield 25, 3) := by decide +kernel
theorem dX6_actText_21 : decode cX6_actText 21 = .ok (.iload_n 3, 1) := by decide +kernel
theorem dX6_actText_22 : decode cX6_actText 22 = .ok (.baload, 1) := by decide +kernel
theorem dX6_actText_23 : decode cX6_actText 23 = .ok (.iload_n 2, 1) := by decide +kernel
theorem dX6_actText_24 : decode cX6_actText 24 = .ok (.ifCond .ne 7, 3) := by decide +kernel
theorem dX6_actText_27 : decode cX6_actText 27 = .ok (.iconst 1, 1) := by decide +kernel
theorem dX6_actText_28 : decode cX6_actText 28 = .ok (.goto 4, 3) := by decide +kernel
theorem dX6_actText_31 : decode cX6_actText 31 = .ok (.iconst 0, 1) := by decide +kernel
theorem dX6_actText_32 : decode cX6_actText 32 = .ok (.if_icmp .ne 7, 3) := by decide +kernel
theorem dX6_actText_35 : decode cX6_actText 35 = .ok (.iconst 1, 1) := by decide +kernel
theorem dX6_actText_36 : decode cX6_actText 36 = .ok (.goto 4, 3) := by decide +kernel
theorem dX6_actText_39 : decode cX6_actText 39 = .ok (.iconst 0, 1) := by decide +kernel
theorem dX6_actText_40 : decode cX6_actText 40 = .ok (.istore 4, 2) := by decide +kernel
theorem dX6_actText_42 : decode cX6_actText 42 = .ok (.iload 4, 2) := by decide +kernel
theorem dX6_actText_44 : decode cX6_actText 44 = .ok (.ifCond .eq 8, 3) := by decide +kernel
theorem dX6_actText_47 : decode cX6_actText 47 = .ok (.bipush 11, 2) := by decide +kernel
theorem dX6_actText_49 : decode cX6_actText 49 = .ok (.goto 22, 3) := by decide +kernel
theorem dX6_actText_52 : decode cX6_actText 52 = .ok (.iload_n 2, 1) := by decide +kernel
theorem dX6_actText_53 : decode cX6_actText 53 = .ok (.ifCond .ne 17, 3) := by decide +kernel
theorem dX6_actText_56 : decode cX6_actText 56 = .ok (.aload_n 0, 1) := by decide +kernel
theorem dX6_actText_57 : decode cX6_actText 57 = .ok (.getfield 29, 3) := by decide +kernel
theorem dX6_actText_60 : decode cX6_actText 60 = .ok (.iload_n 3, 1) := by decide +kernel
theorem dX6_actText_61 : decode cX6_actText 61 = .ok (.baload, 1) := by decide +kernel
theorem dX6_actText_62 : decode cX6_actText 62 = .ok (.ifCond .eq 8, 3) := by decide +kernel
theorem dX6_actText_65 : decode cX6_actText 65 = .ok (.bipush 12, 2) := by decide +kernel
theorem dX6_actText_67 : decode cX6_actText 67 = .ok (.goto 4, 3) := by decide +kernel
theorem dX6_actText_70 : decode cX6_actText 70 = .ok (.iconst 0, 1) := by decide +kernel
theorem dX6_actText_71 : decode cX6_actText 71 = .ok (.ireturn, 1) := by decide +kernel
theorem dX6_actText_72 : decode cX6_actText 72 = .ok (.aload_n 0, 1) := by decide +kernel
theorem dX6_actText_73 : decode cX6_actText 73 = .ok (.getfield 29, 3) := by decide +kernel
theorem dX6_actText_76 : decode cX6_actText 76 = .ok (.iload_n 3, 1) := by decide +kernel
theorem dX6_actText_77 : decode cX6_actText 77 = .ok (.baload, 1) := by decide +kernel
theorem dX6_actText_78 : decode cX6_actText 78 = .ok (.iload_n 2, 1) := by decide +kernel
theorem dX6_actText_79 : decode cX6_actText 79 = .ok (.iconst 2, 1) := by decide +kernel
theorem dX6_actText_80 : decode cX6_actText 80 = .ok (.if_icmp .ne 7, 3) := by decide +kernel
theorem dX6_actText_83 : decode cX6_actText 83 = .ok (.iconst 1, 1) := by decide +kernel
theorem dX6_actText_84 : decode cX6_actText 84 = .ok (.goto 4, 3) := by decide +kernel
theorem dX6_actText_87 : decode cX6_actText 87 = .ok (.iconst 0, 1) := by decide +kernel
theorem dX6_actText_88 : decode cX6_actText 88 = .ok (.if_icmp .ne 6, 3) := by decide +kernel
theorem dX6_actText_91 : decode cX6_actText 91 = .ok (.bipush 11, 2) := by decide +kernel
theorem dX6_actText_93 : decode cX6_actText 93 = .ok (.ireturn, 1) := by decide +kernel
theorem dX6_actText_94 : decode cX6_actText 94 = .ok (.aload_n 0, 1) := by decide +kernel
theorem dX6_actText_95 : decode cX6_actText 95 = .ok (.getfield 22, 3) := by decide +kernel
theorem dX6_actText_98 : decode cX6_actText 98 = .ok (.iload_n 3, 1) := by decide +kernel
theorem dX6_actText_99 : decode cX6_actText 99 = .ok (.iaload, 1) := by decide +kernel
theorem dX6_actText_100 : decode cX6_actText 100 = .ok (.ifCond .ge 6, 3) := by decide +kernel
theorem dX6_actText_103 : decode cX6_actText 103 = .ok (.bipush 13, 2) := by decide +kernel
theorem dX6_actText_105 : decode cX6_actText 105 = .ok (.ireturn, 1) := by decide +kernel
theorem dX6_actText_106 : decode cX6_actText 106 = .ok (.aload_n 0, 1) := by decide +kernel
theorem dX6_actText_107 : decode cX6_actText 107 = .ok (.iload_n 1, 1) := by decide +kernel
theorem dX6_actText_108 : decode cX6_actText 108 = .ok (.aload_n 0, 1) := by decide +kernel
theorem dX6_actText_109 : decode cX6_actText 109 = .ok (.getfield 22, 3) := by decide +kernel
theorem dX6_actText_112 : decode cX6_actText 112 = .ok (.iload_n 3, 1) := by decide +kernel
theorem dX6_actText_113 : decode cX6_actText 113 = .ok (.iaload, 1) := by decide +kernel
theorem dX6_actText_114 : decode cX6_actText 114 = .ok (.invokevirtual 114, 3) := by decide +kernel
theorem dX6_actText_117 : decode cX6_actText 117 = .ok (.ifCond .eq 5, 3) := by decide +kernel
theorem dX6_actText_120 : decode cX6_actText 120 = .ok (.iconst 0, 1) := by decide +kernel
theorem dX6_actText_121 : decode cX6_actText 121 = .ok (.ireturn, 1) := by decide +kernel
theorem dX6_actText_122 : decode cX6_actText 122 = .ok (.aload_n 0, 1) := by decide +kernel
theorem dX6_actText_123 : decode cX6_actText 123 = .ok (.iload_n 1, 1) := by decide +kernel
theorem dX6_actText_124 : decode cX6_actText 124 = .ok (.iload_n 3, 1) := by decide +kernel
theorem dX6_actText_125 : decode cX6_actText 125 = .ok (.invokevirtual 132, 3) := by decide +kernel
theorem dX6_actText_128 : decode cX6_actText 128 = .ok (.ifCond .eq 8, 3) := by decide +kernel
theorem dX6_actText_131 : decode cX6_actText 131 = .ok (.bipush 15, 2) := by decide +kernel
theorem dX6_actText_133 : decode cX6_actText 133 = .ok (.goto 5, 3) := by decide +kernel
theorem dX6_actText_136 : decode cX6_actText 136 = .ok (.bipush 14, 2) := by decide +kernel
theorem dX6_actText_138 : decode cX6_actText 138 = .ok (.ireturn, 1) := by decide +kernel
theorem dX6_act_0 : decode cX6_act 0 = .ok (.aload_n 0, 1) := by decide +kernel
theorem dX6_act_1 : decode cX6_act 1 = .ok (.iconst 0, 1) := by decide +kernel
theorem dX6_act_2 : decode cX6_act 2 = .ok (.putfield 77, 3) := by decide +kernel
theorem dX6_act_5 : decode cX6_act 5 = .ok (.aload_n 0, 1) := by decide +kernel
theorem dX6_act_6 : decode cX6_act 6 = .ok (.iload_n 1, 1) := by decide +kernel
theorem dX6_act_7 : decode cX6_act 7 = .ok (.invokevirtual 123, 3) := by decide +kernel
theorem dX6_act_10 : decode cX6_act 10 = .ok (.ifCond .eq 20, 3) := by decide +kernel
theorem dX6_act_13 : decode cX6_act 13 = .ok (.iload_n 2, 1) := by decide +kernel
theorem dX6_act_14 : decode cX6_act 14 = .ok (.iconst 0, 1) := by decide +kernel
theorem dX6_act_15 : decode cX6_act 15 = .ok (.iconst 3, 1) := by decide +kernel
theorem dX6_act_16 : decode cX6_act 16 = .ok (.invokestatic 84, 3) := by decide +kernel
theorem dX6_act_19 : decode cX6_act 19 = .ok (.ifCond .eq 11, 3) := by decide +kernel
theorem dX6_act_22 : decode cX6_act 22 = .ok (.aload_n 0, 1) := by decide +kernel
theorem dX6_act_23 : decode cX6_act 23 = .ok (.iload_n 3, 1) := by decide +kernel
theorem dX6_act_24 : decode cX6_act 24 = .ok (.invokevirtual 101, 3) := by decide +kernel
theorem dX6_act_27 : decode cX6_act 27 = .ok (.ifCond .ne 5, 3) := by decide +kernel
theorem dX6_act_30 : decode cX6_act 30 = .ok (.iconst (-1), 1) := by decide +kernel
theorem dX6_act_31 : decode cX6_act 31 = .ok (.ireturn, 1) := by decide +kernel
theorem dX6_act_32 : decode cX6_act 32 = .ok (.aload_n 0, 1) := by decide +kernel
theorem dX6_act_33 : decode cX6_act 33 = .ok (.iload_n 1, 1) := by decide +kernel
theorem dX6_act_34 : decode cX6_act 34 = .ok (.iload_n 2, 1) := by decide +kernel
theorem dX6_act_35 : decode cX6_act 35 = .ok (.iload_n 3, 1) := by decide +kernel
theorem dX6_act_36 : decode cX6_act 36 = .ok (.invokevirtual 135, 3) := by decide +kernel
theorem dX6_act_39 : decode cX6_act 39 = .ok (.istore 4, 2) := by decide +kernel
theorem dX6_act_41 : decode cX6_act 41 = .ok (.iload 4, 2) := by decide +kernel
theorem dX6_act_43 : decode cX6_act 43 = .ok (.ifCond .le 7, 3) := by decide +kernel
theorem dX6_act_46 : decode cX6_act 46 = .ok (.iload 4, 2) := by decide +kernel
theorem dX6_act_48 : decode cX6_act 48 = .ok (.ineg, 1) := by decide +kernel
theorem dX6_act_49 : decode cX6_act 49 = .ok (.ireturn, 1) := by decide +kernel
theorem dX6_act_50 : decode cX6_act 50 = .ok (.iload_n 2, 1) := by decide +kernel
theorem dX6_act_51 : decode cX6_act 51 = .ok (.iconst 2, 1) := by decide +kernel
theorem dX6_act_52 : decode cX6_act 52 = .ok (.if_icmp .ge 21, 3) := by decide +kernel
theorem dX6_act_55 : decode cX6_act 55 = .ok (.aload_n 0, 1) := by decide +kernel
theorem dX6_act_56 : decode cX6_act 56 = .ok (.getfield 25, 3) := by decide +kernel
theorem dX6_act_59 : decode cX6_act 59 = .ok (.iload_n 3, 1) := by decide +kernel
theorem dX6_act_60 : decode cX6_act 60 = .ok (.iload_n 2, 1) := by decide +kernel
theorem dX6_act_61 : decode cX6_act 61 = .ok (.ifCond .ne 7, 3) := by decide +kernel
theorem dX6_act_64 : decode cX6_act 64 = .ok (.iconst 1, 1) := by decide +kernel
theorem dX6_act_65 : decode cX6_act 65 = .ok (.goto 4, 3) := by decide +kernel
theorem dX6_act_68 : decode cX6_act 68 = .ok (.iconst 0, 1) := by decide +kernel
theorem dX6_act_69 : decode cX6_act 69 = .ok (.bastore, 1) := by decide +kernel
theorem dX6_act_70 : decode cX6_act 70 = .ok (.goto 19, 3) := by decide +kernel
theorem dX6_act_73 : decode cX6_act 73 = .ok (.aload_n 0, 1) := by decide +kernel
theorem dX6_act_74 : decode cX6_act 74 = .ok (.getfield 29, 3) := by decide +kernel
theorem dX6_act_77 : decode cX6_act 77 = .ok (.iload_n 3, 1) := by decide +kernel
theorem dX6_act_78 : decode cX6_act 78 = .ok (.iload_n 2, 1) := by decide +kernel
theorem dX6_act_79 : decode cX6_act 79 = .ok (.iconst 2, 1) := by decide +kernel
theorem dX6_act_80 : decode cX6_act 80 = .ok (.if_icmp .ne 7, 3) := by decide +kernel
theorem dX6_act_83 : decode cX6_act 83 = .ok (.iconst 1, 1) := by decide +kernel
theorem dX6_act_84 : decode cX6_act 84 = .ok (.goto 4, 3) := by decide +kernel
theorem dX6_act_87 : decode cX6_act 87 = .ok (.iconst 0, 1) := by decide +kernel
theorem dX6_act_88 : decode cX6_act 88 = .ok (.bastore, 1) := by decide +kernel
theorem dX6_act_89 : decode cX6_act 89 = .ok (.iconst 1, 1) := by decide +kernel
theorem dX6_act_90 : decode cX6_act 90 = .ok (.ireturn, 1) := by decide +kernel
theorem dX6_handleText_0 : decode cX6_handleText 0 = .ok (.iload_n 2, 1) := by decide +kernel
theorem dX6_handleText_1 : decode cX6_handleText 1 = .ok (.iconst 1, 1) := by decide +kernel
theorem dX6_handleText_2 : decode cX6_handleText 2 = .ok (.if_icmp .ne 19, 3) := by decide +kernel
theorem dX6_handleText_5 : decode cX6_handleText 5 = .ok (.aload_n 0, 1) := by decide +kernel
theorem dX6_handleText_6 : decode cX6_handleText 6 = .ok (.iload_n 1, 1) := by decide +kernel
theorem dX6_handleText_7 : decode cX6_handleText 7 = .ok (.iload_n 3, 1) := by decide +kernel
theorem dX6_handleText_8 : decode cX6_handleText 8 = .ok (.invokevirtual 114, 3) := by decide +kernel
theorem dX6_handleText_11 : decode cX6_handleText 11 = .ok (.ifCond .eq 7, 3) := by decide +kernel
theorem dX6_handleText_14 : decode cX6_handleText 14 = .ok (.iconst 0, 1) := by decide +kernel
theorem dX6_handleText_15 : decode cX6_handleText 15 = .ok (.goto 5, 3) := by decide +kernel
theorem dX6_handleText_18 : decode cX6_handleText 18 = .ok (.bipush 18, 2) := by decide +kernel
theorem dX6_handleText_20 : decode cX6_handleText 20 = .ok (.ireturn, 1) := by decide +kernel
theorem dX6_handleText_21 : decode cX6_handleText 21 = .ok (.aload_n 0, 1) := by decide +kernel
theorem dX6_handleText_22 : decode cX6_handleText 22 = .ok (.iload_n 1, 1) := by decide +kernel
theorem dX6_handleText_23 : decode cX6_handleText 23 = .ok (.iload_n 3, 1) := by decide +kernel
theorem dX6_handleText_24 : decode cX6_handleText 24 = .ok (.invokevirtual 129, 3) := by decide +kernel
theorem dX6_handleText_27 : decode cX6_handleText 27 = .ok (.ifCond .ne 6, 3) := by decide +kernel
theorem dX6_handleText_30 : decode cX6_handleText 30 = .ok (.bipush 10, 2) := by decide +kernel
theorem dX6_handleText_32 : decode cX6_handleText 32 = .ok (.ireturn, 1) := by decide +kernel
theorem dX6_handleText_33 : decode cX6_handleText 33 = .ok (.iload_n 2, 1) := by decide +kernel
theorem dX6_handleText_34 : decode cX6_handleText 34 = .ok (.ifCond .ne 47, 3) := by decide +kernel
theorem dX6_handleText_37 : decode cX6_handleText 37 = .ok (.aload_n 0, 1) := by decide +kernel
theorem dX6_handleText_38 : decode cX6_handleText 38 = .ok (.iload_n 1, 1) := by decide +kernel
theorem dX6_handleText_39 : decode cX6_handleText 39 = .ok (.iload_n 3, 1) := by decide +kernel
theorem dX6_handleText_40 : decode cX6_handleText 40 = .ok (.invokevirtual 114, 3) := by decide +kernel
theorem dX6_handleText_43 : decode cX6_handleText 43 = .ok (.ifCond .eq 8, 3) := by decide +kernel
theorem dX6_handleText_46 : decode cX6_handleText 46 = .ok (.bipush 11, 2) := by decide +kernel
theorem dX6_handleText_48 : decode cX6_handleText 48 = .ok (.goto 32, 3) := by decide +kernel
theorem dX6_handleText_51 : decode cX6_handleText 51 = .ok (.aload_n 0, 1) := by decide +kernel
theorem dX6_handleText_52 : decode cX6_handleText 52 = .ok (.getfield 32, 3) := by decide +kernel
theorem dX6_handleText_55 : decode cX6_handleText 55 = .ok (.iload_n 3, 1) := by decide +kernel
theorem dX6_handleText_56 : decode cX6_handleText 56 = .ok (.iaload, 1) := by decide +kernel
theorem dX6_handleText_57 : decode cX6_handleText 57 = .ok (.ifCond .eq 8, 3) := by decide +kernel
theorem dX6_handleText_60 : decode cX6_handleText 60 = .ok (.bipush 16, 2) := by decide +kernel
theorem dX6_handleText_62 : decode cX6_handleText 62 = .ok (.goto 18, 3) := by decide +kernel
theorem dX6_handleText_65 : decode cX6_handleText 65 = .ok (.aload_n 0, 1) := by decide +kernel
theorem dX6_handleText_66 : decode cX6_handleText 66 = .ok (.iload_n 1, 1) := by decide +kernel
theorem dX6_handleText_67 : decode cX6_handleText 67 = .ok (.invokevirtual 139, 3) := by decide +kernel
theorem dX6_handleText_70 : decode cX6_handleText 70 = .ok (.iconst 4, 1) := by decide +kernel
theorem dX6_handleText_71 : decode cX6_handleText 71 = .ok (.if_icmp .ne 8, 3) := by decide +kernel
theorem dX6_handleText_74 : decode cX6_handleText 74 = .ok (.bipush 17, 2) := by decide +kernel
theorem dX6_handleText_76 : decode cX6_handleText 76 = .ok (.goto 4, 3) := by decide +kernel
theorem dX6_handleText_79 : decode cX6_handleText 79 = .ok (.iconst 0, 1) := by decide +kernel
theorem dX6_handleText_80 : decode cX6_handleText 80 = .ok (.ireturn, 1) := by decide +kernel
theorem dX6_handleText_81 : decode cX6_handleText 81 = .ok (.iload_n 2, 1) := by decide +kernel
theorem dX6_handleText_82 : decode cX6_handleText 82 = .ok (.iconst 2, 1) := by decide +kernel
theorem dX6_handleText_83 : decode cX6_handleText 83 = .ok (.if_icmp .ne 48, 3) := by decide +kernel
theorem dX6_handleText_86 : decode cX6_handleText 86 = .ok (.aload_n 0, 1) := by decide +kernel
theorem dX6_handleText_87 : decode cX6_handleText 87 = .ok (.getfield 32, 3) := by decide +kernel
theorem dX6_handleText_90 : decode cX6_handleText 90 = .ok (.iload_n 3, 1) := by decide +kernel
theorem dX6_handleText_91 : decode cX6_handleText 91 = .ok (.iaload, 1) := by decide +kernel
theorem dX6_handleText_92 : decode cX6_handleText 92 = .ok (.iconst 2, 1) := by decide +kernel
theorem dX6_handleText_93 : decode cX6_handleText 93 = .ok (.if_icmp .ge 8, 3) := by decide +kernel
theorem dX6_handleText_96 : decode cX6_handleText 96 = .ok (.bipush 19, 2) := by decide +kernel
theorem dX6_handleText_98 : decode cX6_handleText 98 = .ok (.goto 32, 3) := by decide +kernel
theorem dX6_handleText_101 : decode cX6_handleText 101 = .ok (.aload_n 0, 1) := by decide +kernel
theorem dX6_handleText_102 : decode cX6_handleText 102 = .ok (.getfield 50, 3) := by decide +kernel
theorem dX6_handleText_105 : decode cX6_handleText 105 = .ok (.iload_n 1, 1) := by decide +kernel
theorem dX6_handleText_106 : decode cX6_handleText 106 = .ok (.iaload, 1) := by decide +kernel
theorem dX6_handleText_107 : decode cX6_handleText 107 = .ok (.ifCond .lt 8, 3) := by decide +kernel
theorem dX6_handleText_110 : decode cX6_handleText 110 = .ok (.bipush 20, 2) := by decide +kernel
theorem dX6_handleText_112 : decode cX6_handleText 112 = .ok (.goto 18, 3) := by decide +kernel
theorem dX6_handleText_115 : decode cX6_handleText 115 = .ok (.aload_n 0, 1) := by decide +kernel
theorem dX6_handleText_116 : decode cX6_handleText 116 = .ok (.getfield 44, 3) := by decide +kernel
theorem dX6_handleText_119 : decode cX6_handleText 119 = .ok (.iload_n 3, 1) := by decide +kernel
theorem dX6_handleText_120 : decode cX6_handleText 120 = .ok (.baload, 1) := by decide +kernel
theorem dX6_handleText_121 : decode cX6_handleText 121 = .ok (.ifCond .eq 8, 3) := by decide +kernel
theorem dX6_handleText_124 : decode cX6_handleText 124 = .ok (.bipush 21, 2) := by decide +kernel
theorem dX6_handleText_126 : decode cX6_handleText 126 = .ok (.goto 4, 3) := by decide +kernel
theorem dX6_handleText_129 : decode cX6_handleText 129 = .ok (.iconst 0, 1) := by decide +kernel
theorem dX6_handleText_130 : decode cX6_handleText 130 = .ok (.ireturn, 1) := by decide +kernel
theorem dX6_handleText_131 : decode cX6_handleText 131 = .ok (.aload_n 0, 1) := by decide +kernel
theorem dX6_handleText_132 : decode cX6_handleText 132 = .ok (.getfield 32, 3) := by decide +kernel
theorem dX6_handleText_135 : decode cX6_handleText 135 = .ok (.iload_n 3, 1) := by decide +kernel
theorem dX6_handleText_136 : decode cX6_handleText 136 = .ok (.iaload, 1) := by decide +kernel
theorem dX6_handleText_137 : decode cX6_handleText 137 = .ok (.iconst 3, 1) := by decide +kernel
theorem dX6_handleText_138 : decode cX6_handleText 138 = .ok (.if_icmp .eq 8, 3) := by decide +kernel
theorem dX6_handleText_141 : decode cX6_handleText 141 = .ok (.bipush 22, 2) := by decide +kernel
theorem dX6_handleText_143 : decode cX6_handleText 143 = .ok (.goto 28, 3) := by decide +kernel
theorem dX6_handleText_146 : decode cX6_handleText 146 = .ok (.aload_n 0, 1) := by decide +kernel
theorem dX6_handleText_147 : decode cX6_handleText 147 = .ok (.getfield 44, 3) := by decide +kernel
theorem dX6_handleText_150 : decode cX6_handleText 150 = .ok (.iload_n 3, 1) := by decide +kernel
theorem dX6_handleText_151 : decode cX6_handleText 151 = .ok (.baload, 1) := by decide +kernel
theorem dX6_handleText_152 : decode cX6_handleText 152 = .ok (.iload_n 2, 1) := by decide +kernel
theorem dX6_handleText_153 : decode cX6_handleText 153 = .ok (.iconst 4, 1) := by decide +kernel
theorem dX6_handleText_154 : decode cX6_handleText 154 = .ok (.if_icmp .ne 7, 3) := by decide +kernel
theorem dX6_handleText_157 : decode cX6_handleText 157 = .ok (.iconst 1, 1) := by decide +kernel
theorem dX6_handleText_158 : decode cX6_handleText 158 = .ok (.goto 4, 3) := by decide +kernel
theorem dX6_handleText_161 : decode cX6_handleText 161 = .ok (.iconst 0, 1) := by decide +kernel
theorem dX6_handleText_162 : decode cX6_handleText 162 = .ok (.if_icmp .ne 8, 3) := by decide +kernel
theorem dX6_handleText_165 : decode cX6_handleText 165 = .ok (.bipush 11, 2) := by decide +kernel
theorem dX6_handleText_167 : decode cX6_handleText 167 = .ok (.goto 4, 3) := by decide +kernel
theorem dX6_handleText_170 : decode cX6_handleText 170 = .ok (.iconst 0, 1) := by decide +kernel
theorem dX6_handleText_171 : decode cX6_handleText 171 = .ok (.ireturn, 1) := by decide +kernel
theorem dX6_handle_0 : decode cX6_handle 0 = .ok (.aload_n 0, 1) := by decide +kernel
theorem dX6_handle_1 : decode cX6_handle 1 = .ok (.iconst 0, 1) := by decide +kernel
theorem dX6_handle_2 : decode cX6_handle 2 = .ok (.putfield 77, 3) := by decide +kernel
theorem dX6_handle_5 : decode cX6_handle 5 = .ok (.aload_n 0, 1) := by decide +kernel
theorem dX6_handle_6 : decode cX6_handle 6 = .ok (.iload_n 1, 1) := by decide +kernel
theorem dX6_handle_7 : decode cX6_handle 7 = .ok (.invokevirtual 123, 3) := by decide +kernel
theorem dX6_handle_10 : decode cX6_handle 10 = .ok (.ifCond .eq 20, 3) := by decide +kernel
theorem dX6_handle_13 : decode cX6_handle 13 = .ok (.iload_n 2, 1) := by decide +kernel
theorem dX6_handle_14 : decode cX6_handle 14 = .ok (.iconst 0, 1) := by decide +kernel
theorem dX6_handle_15 : decode cX6_handle 15 = .ok (.iconst 4, 1) := by decide +kernel
theorem dX6_handle_16 : decode cX6_handle 16 = .ok (.invokestatic 84, 3) := by decide +kernel
theorem dX6_handle_19 : decode cX6_handle 19 = .ok (.ifCond .eq 11, 3) := by decide +kernel
theorem dX6_handle_22 : decode cX6_handle 22 = .ok (.aload_n 0, 1) := by decide +kernel
theorem dX6_handle_23 : decode cX6_handle 23 = .ok (.iload_n 3, 1) := by decide +kernel
theorem dX6_handle_24 : decode cX6_handle 24 = .ok (.invokevirtual 111, 3) := by decide +kernel
theorem dX6_handle_27 : decode cX6_handle 27 = .ok (.ifCond .ne 5, 3) := by decide +kernel
theorem dX6_handle_30 : decode cX6_handle 30 = .ok (.iconst (-1), 1) := by decide +kernel
theorem dX6_handle_31 : decode cX6_handle 31 = .ok (.ireturn, 1) := by decide +kernel
theorem dX6_handle_32 : decode cX6_handle 32 = .ok (.aload_n 0, 1) := by decide +kernel
theorem dX6_handle_33 : decode cX6_handle 33 = .ok (.iload_n 1, 1) := by decide +kernel
theorem dX6_handle_34 : decode cX6_handle 34 = .ok (.iload_n 2, 1) := by decide +kernel
theorem dX6_handle_35 : decode cX6_handle 35 = .ok (.iload_n 3, 1) := by decide +kernel
theorem dX6_handle_36 : decode cX6_handle 36 = .ok (.invokevirtual 143, 3) := by decide +kernel
theorem dX6_handle_39 : decode cX6_handle 39 = .ok (.istore 4, 2) := by decide +kernel
theorem dX6_handle_41 : decode cX6_handle 41 = .ok (.iload 4, 2) := by decide +kernel
theorem dX6_handle_43 : decode cX6_handle 43 = .ok (.ifCond .le 7, 3) := by decide +kernel
theorem dX6_handle_46 : decode cX6_handle 46 = .ok (.iload 4, 2) := by decide +kernel
theorem dX6_handle_48 : decode cX6_handle 48 = .ok (.ineg, 1) := by decide +kernel
theorem dX6_handle_49 : decode cX6_handle 49 = .ok (.ireturn, 1) := by decide +kernel
theorem dX6_handle_50 : decode cX6_handle 50 = .ok (.iload_n 2, 1) := by decide +kernel
theorem dX6_handle_51 : decode cX6_handle 51 = .ok (.iconst 2, 1) := by decide +kernel
theorem dX6_handle_52 : decode cX6_handle 52 = .ok (.if_icmp .ge 29, 3) := by decide +kernel
theorem dX6_handle_55 : decode cX6_handle 55 = .ok (.aload_n 0, 1) := by decide +kernel
theorem dX6_handle_56 : decode cX6_handle 56 = .ok (.getfield 38, 3) := by decide +kernel
theorem dX6_handle_59 : decode cX6_handle 59 = .ok (.iload_n 3, 1) := by decide +kernel
theorem dX6_handle_60 : decode cX6_handle 60 = .ok (.iload_n 2, 1) := by decide +kernel
theorem dX6_handle_61 : decode cX6_handle 61 = .ok (.ifCond .ne 10, 3) := by decide +kernel
theorem dX6_handle_64 : decode cX6_handle 64 = .ok (.bipush 100, 2) := by decide +kernel
theorem dX6_handle_66 : decode cX6_handle 66 = .ok (.iload_n 1, 1) := by decide +kernel
theorem dX6_handle_67 : decode cX6_handle 67 = .ok (.iadd, 1) := by decide +kernel
theorem dX6_handle_68 : decode cX6_handle 68 = .ok (.goto 9, 3) := by decide +kernel
theorem dX6_handle_71 : decode cX6_handle 71 = .ok (.aload_n 0, 1) := by decide +kernel
theorem dX6_handle_72 : decode cX6_handle 72 = .ok (.getfield 47, 3) := by decide +kernel
theorem dX6_handle_75 : decode cX6_handle 75 = .ok (.iload_n 1, 1) := by decide +kernel
theorem dX6_handle_76 : decode cX6_handle 76 = .ok (.iaload, 1) := by decide +kernel
theorem dX6_handle_77 : decode cX6_handle 77 = .ok (.iastore, 1) := by decide +kernel
theorem dX6_handle_78 : decode cX6_handle 78 = .ok (.goto 34, 3) := by decide +kernel
theorem dX6_handle_81 : decode cX6_handle 81 = .ok (.iload_n 2, 1) := by decide +kernel
theorem dX6_handle_82 : decode cX6_handle 82 = .ok (.iconst 2, 1) := by decide +kernel
theorem dX6_handle_83 : decode cX6_handle 83 = .ok (.if_icmp .ne 13, 3) := by decide +kernel
theorem dX6_handle_86 : decode cX6_handle 86 = .ok (.aload_n 0, 1) := by decide +kernel
theorem dX6_handle_87 : decode cX6_handle 87 = .ok (.getfield 50, 3) := by decide +kernel
theorem dX6_handle_90 : decode cX6_handle 90 = .ok (.iload_n 1, 1) := by decide +kernel
theorem dX6_handle_91 : decode cX6_handle 91 = .ok (.iload_n 3, 1) := by decide +kernel
theorem dX6_handle_92 : decode cX6_handle 92 = .ok (.iastore, 1) := by decide +kernel
theorem dX6_handle_93 : decode cX6_handle 93 = .ok (.goto 19, 3) := by decide +kernel
theorem dX6_handle_96 : decode cX6_handle 96 = .ok (.aload_n 0, 1) := by decide +kernel
theorem dX6_handle_97 : decode cX6_handle 97 = .ok (.getfield 44, 3) := by decide +kernel
theorem dX6_handle_100 : decode cX6_handle 100 = .ok (.iload_n 3, 1) := by decide +kernel
theorem dX6_handle_101 : decode cX6_handle 101 = .ok (.iload_n 2, 1) := by decide +kernel
theorem dX6_handle_102 : decode cX6_handle 102 = .ok (.iconst 4, 1) := by decide +kernel
theorem dX6_handle_103 : decode cX6_handle 103 = .ok (.if_icmp .ne 7, 3) := by decide +kernel
theorem dX6_handle_106 : decode cX6_handle 106 = .ok (.iconst 1, 1) := by decide +kernel
theorem dX6_handle_107 : decode cX6_handle 107 = .ok (.goto 4, 3) := by decide +kernel
theorem dX6_handle_110 : decode cX6_handle 110 = .ok (.iconst 0, 1) := by decide +kernel
theorem dX6_handle_111 : decode cX6_handle 111 = .ok (.bastore, 1) := by decide +kernel
theorem dX6_handle_112 : decode cX6_handle 112 = .ok (.iconst 1, 1) := by decide +kernel
theorem dX6_handle_113 : decode cX6_handle 113 = .ok (.ireturn, 1) := by decide +kernel
theorem dX6_leave_0 : decode cX6_leave 0 = .ok (.aload_n 0, 1) := by decide +kernel
theorem dX6_leave_1 : decode cX6_leave 1 = .ok (.iconst 0, 1) := by decide +kernel
theorem dX6_leave_2 : decode cX6_leave 2 = .ok (.putfield 77, 3) := by decide +kernel
theorem dX6_leave_5 : decode cX6_leave 5 = .ok (.aload_n 0, 1) := by decide +kernel
theorem dX6_leave_6 : decode cX6_leave 6 = .ok (.iload_n 1, 1) := by decide +kernel
theorem dX6_leave_7 : decode cX6_leave 7 = .ok (.invokevirtual 123, 3) := by decide +kernel
theorem dX6_leave_10 : decode cX6_leave 10 = .ok (.ifCond .ne 5, 3) := by decide +kernel
theorem dX6_leave_13 : decode cX6_leave 13 = .ok (.iconst (-1), 1) := by decide +kernel
theorem dX6_leave_14 : decode cX6_leave 14 = .ok (.ireturn, 1) := by decide +kernel
theorem dX6_leave_15 : decode cX6_leave 15 = .ok (.aload_n 0, 1) := by decide +kernel
theorem dX6_leave_16 : decode cX6_leave 16 = .ok (.getfield 50, 3) := by decide +kernel
theorem dX6_leave_19 : decode cX6_leave 19 = .ok (.iload_n 1, 1) := by decide +kernel
theorem dX6_leave_20 : decode cX6_leave 20 = .ok (.iaload, 1) := by decide +kernel
theorem dX6_leave_21 : decode cX6_leave 21 = .ok (.ifCond .ge 6, 3) := by decide +kernel
theorem dX6_leave_24 : decode cX6_leave 24 = .ok (.bipush (-23), 2) := by decide +kernel
theorem dX6_leave_26 : decode cX6_leave 26 = .ok (.ireturn, 1) := by decide +kernel
theorem dX6_leave_27 : decode cX6_leave 27 = .ok (.aload_n 0, 1) := by decide +kernel
theorem dX6_leave_28 : decode cX6_leave 28 = .ok (.getfield 44, 3) := by decide +kernel
theorem dX6_leave_31 : decode cX6_leave 31 = .ok (.aload_n 0, 1) := by decide +kernel
theorem dX6_leave_32 : decode cX6_leave 32 = .ok (.getfield 50, 3) := by decide +kernel
theorem dX6_leave_35 : decode cX6_leave 35 = .ok (.iload_n 1, 1) := by decide +kernel
theorem dX6_leave_36 : decode cX6_leave 36 = .ok (.iaload, 1) := by decide +kernel
theorem dX6_leave_37 : decode cX6_leave 37 = .ok (.baload, 1) := by decide +kernel
theorem dX6_leave_38 : decode cX6_leave 38 = .ok (.ifCond .eq 6, 3) := by decide +kernel
theorem dX6_leave_41 : decode cX6_leave 41 = .ok (.bipush (-21), 2) := by decide +kernel
theorem dX6_leave_43 : decode cX6_leave 43 = .ok (.ireturn, 1) := by decide +kernel
theorem dX6_leave_44 : decode cX6_leave 44 = .ok (.aload_n 0, 1) := by decide +kernel
theorem dX6_leave_45 : decode cX6_leave 45 = .ok (.getfield 50, 3) := by decide +kernel
theorem dX6_leave_48 : decode cX6_leave 48 = .ok (.iload_n 1, 1) := by decide +kernel
theorem dX6_leave_49 : decode cX6_leave 49 = .ok (.iconst (-1), 1) := by decide +kernel
theorem dX6_leave_50 : decode cX6_leave 50 = .ok (.iastore, 1) := by decide +kernel
theorem dX6_leave_51 : decode cX6_leave 51 = .ok (.iconst 1, 1) := by decide +kernel
theorem dX6_leave_52 : decode cX6_leave 52 = .ok (.ireturn, 1) := by decide +kernel
theorem dX6_otherSide_0 : decode cX6_otherSide 0 = .ok (.aload_n 0, 1) := by decide +kernel
theorem dX6_otherSide_1 : decode cX6_otherSide 1 = .ok (.getfield 16, 3) := by decide +kernel
theorem dX6_otherSide_4 : decode cX6_otherSide 4 = .ok (.iload_n 1, 1) := by decide +kernel
theorem dX6_otherSide_5 : decode cX6_otherSide 5 = .ok (.iaload, 1) := by decide +kernel
theorem dX6_otherSide_6 : decode cX6_otherSide 6 = .ok (.iload_n 2, 1) := by decide +kernel
theorem dX6_otherSide_7 : decode cX6_otherSide 7 = .ok (.if_icmp .ne 12, 3) := by decide +kernel
theorem dX6_otherSide_10 : decode cX6_otherSide 10 = .ok (.aload_n 0, 1) := by decide +kernel
theorem dX6_otherSide_11 : decode cX6_otherSide 11 = .ok (.getfield 19, 3) := by decide +kernel
theorem dX6_otherSide_14 : decode cX6_otherSide 14 = .ok (.iload_n 1, 1) := by decide +kernel
theorem dX6_otherSide_15 : decode cX6_otherSide 15 = .ok (.iaload, 1) := by decide +kernel
theorem dX6_otherSide_16 : decode cX6_otherSide 16 = .ok (.goto 9, 3) := by decide +kernel
theorem dX6_otherSide_19 : decode cX6_otherSide 19 = .ok (.aload_n 0, 1) := by decide +kernel
theorem dX6_otherSide_20 : decode cX6_otherSide 20 = .ok (.getfield 16, 3) := by decide +kernel
theorem dX6_otherSide_23 : decode cX6_otherSide 23 = .ok (.iload_n 1, 1) := by decide +kernel
theorem dX6_otherSide_24 : decode cX6_otherSide 24 = .ok (.iaload, 1) := by decide +kernel
theorem dX6_otherSide_25 : decode cX6_otherSide 25 = .ok (.ireturn, 1) := by decide +kernel
theorem dX6_leadsTo_0 : decode cX6_leadsTo 0 = .ok (.aload_n 0, 1) := by decide +kernel
theorem dX6_leadsTo_1 : decode cX6_leadsTo 1 = .ok (.getfield 7, 3) := by decide +kernel
theorem dX6_leadsTo_4 : decode cX6_leadsTo 4 = .ok (.bipush 8, 2) := by decide +kernel
theorem dX6_leadsTo_6 : decode cX6_leadsTo 6 = .ok (.iload_n 1, 1) := by decide +kernel
theorem dX6_leadsTo_7 : decode cX6_leadsTo 7 = .ok (.imul, 1) := by decide +kernel
theorem dX6_leadsTo_8 : decode cX6_leadsTo 8 = .ok (.iload_n 2, 1) := by decide +kernel
theorem dX6_leadsTo_9 : decode cX6_leadsTo 9 = .ok (.iadd, 1) := by decide +kernel
theorem dX6_leadsTo_10 : decode cX6_leadsTo 10 = .ok (.iaload, 1) := by decide +kernel
theorem dX6_leadsTo_11 : decode cX6_leadsTo 11 = .ok (.istore_n 3, 1) := by decide +kernel
theorem dX6_leadsTo_12 : decode cX6_leadsTo 12 = .ok (.iload_n 3, 1) := by decide +kernel
theorem dX6_leadsTo_13 : decode cX6_leadsTo 13 = .ok (.bipush 100, 2) := by decide +kernel
theorem dX6_leadsTo_15 : decode cX6_leadsTo 15 = .ok (.if_icmp .ge 5, 3) := by decide +kernel
theorem dX6_leadsTo_18 : decode cX6_leadsTo 18 = .ok (.iload_n 3, 1) := by decide +kernel
theorem dX6_leadsTo_19 : decode cX6_leadsTo 19 = .ok (.ireturn, 1) := by decide +kernel
theorem dX6_leadsTo_20 : decode cX6_leadsTo 20 = .ok (.iload_n 3, 1) := by decide +kernel
theorem dX6_leadsTo_21 : decode cX6_leadsTo 21 = .ok (.sipush 200, 3) := by decide +kernel
theorem dX6_leadsTo_24 : decode cX6_leadsTo 24 = .ok (.if_icmp .ge 29, 3) := by decide +kernel
theorem dX6_leadsTo_27 : decode cX6_leadsTo 27 = .ok (.aload_n 0, 1) := by decide +kernel
theorem dX6_leadsTo_28 : decode cX6_leadsTo 28 = .ok (.getfield 25, 3) := by decide +kernel
theorem dX6_leadsTo_31 : decode cX6_leadsTo 31 = .ok (.iload_n 3, 1) := by decide +kernel
theorem dX6_leadsTo_32 : decode cX6_leadsTo 32 = .ok (.bipush 100, 2) := by decide +kernel
theorem dX6_leadsTo_34 : decode cX6_leadsTo 34 = .ok (.isub, 1) := by decide +kernel
theorem dX6_leadsTo_35 : decode cX6_leadsTo 35 = .ok (.baload, 1) := by decide +kernel
theorem dX6_leadsTo_36 : decode cX6_leadsTo 36 = .ok (.ifCond .eq 15, 3) := by decide +kernel
theorem dX6_leadsTo_39 : decode cX6_leadsTo 39 = .ok (.aload_n 0, 1) := by decide +kernel
theorem dX6_leadsTo_40 : decode cX6_leadsTo 40 = .ok (.iload_n 3, 1) := by decide +kernel
theorem dX6_leadsTo_41 : decode cX6_leadsTo 41 = .ok (.bipush 100, 2) := by decide +kernel
theorem dX6_leadsTo_43 : decode cX6_leadsTo 43 = .ok (.isub, 1) := by decide +kernel
theorem dX6_leadsTo_44 : decode cX6_leadsTo 44 = .ok (.iload_n 1, 1) := by decide +kernel
theorem dX6_leadsTo_45 : decode cX6_leadsTo 45 = .ok (.invokevirtual 146, 3) := by decide +kernel
theorem dX6_leadsTo_48 : decode cX6_leadsTo 48 = .ok (.goto 4, 3) := by decide +kernel
theorem dX6_leadsTo_51 : decode cX6_leadsTo 51 = .ok (.iconst (-1), 1) := by decide +kernel
theorem dX6_leadsTo_52 : decode cX6_leadsTo 52 = .ok (.ireturn, 1) := by decide +kernel
theorem dX6_leadsTo_53 : decode cX6_leadsTo 53 = .ok (.iload_n 3, 1) := by decide +kernel
theorem dX6_leadsTo_54 : decode cX6_leadsTo 54 = .ok (.sipush 300, 3) := by decide +kernel
theorem dX6_leadsTo_57 : decode cX6_leadsTo 57 = .ok (.if_icmp .lt 16, 3) := by decide +kernel
theorem dX6_leadsTo_60 : decode cX6_leadsTo 60 = .ok (.aload_n 0, 1) := by decide +kernel
theorem dX6_leadsTo_61 : decode cX6_leadsTo 61 = .ok (.getfield 65, 3) := by decide +kernel
theorem dX6_leadsTo_64 : decode cX6_leadsTo 64 = .ok (.iload_n 3, 1) := by decide +kernel
theorem dX6_leadsTo_65 : decode cX6_leadsTo 65 = .ok (.sipush 300, 3) := by decide +kernel
theorem dX6_leadsTo_68 : decode cX6_leadsTo 68 = .ok (.isub, 1) := by decide +kernel
theorem dX6_leadsTo_69 : decode cX6_leadsTo 69 = .ok (.iaload, 1) := by decide +kernel
theorem dX6_leadsTo_70 : decode cX6_leadsTo 70 = .ok (.ifCond .ne 7, 3) := by decide +kernel
theorem dX6_leadsTo_73 : decode cX6_leadsTo 73 = .ok (.iconst (-1), 1) := by decide +kernel
theorem dX6_leadsTo_74 : decode cX6_leadsTo 74 = .ok (.goto 26, 3) := by decide +kernel
theorem dX6_leadsTo_77 : decode cX6_leadsTo 77 = .ok (.aload_n 0, 1) := by decide +kernel
theorem dX6_leadsTo_78 : decode cX6_leadsTo 78 = .ok (.getfield 62, 3) := by decide +kernel
theorem dX6_leadsTo_81 : decode cX6_leadsTo 81 = .ok (.iconst 4, 1) := by decide +kernel
theorem dX6_leadsTo_82 : decode cX6_leadsTo 82 = .ok (.iload_n 3, 1) := by decide +kernel
theorem dX6_leadsTo_83 : decode cX6_leadsTo 83 = .ok (.sipush 300, 3) := by decide +kernel
theorem dX6_leadsTo_86 : decode cX6_leadsTo 86 = .ok (.isub, 1) := by decide +kernel
theorem dX6_leadsTo_87 : decode cX6_leadsTo 87 = .ok (.imul, 1) := by decide +kernel
theorem dX6_leadsTo_88 : decode cX6_leadsTo 88 = .ok (.aload_n 0, 1) := by decide +kernel
theorem dX6_leadsTo_89 : decode cX6_leadsTo 89 = .ok (.getfield 68, 3) := by decide +kernel
theorem dX6_leadsTo_92 : decode cX6_leadsTo 92 = .ok (.iload_n 3, 1) := by decide +kernel
theorem dX6_leadsTo_93 : decode cX6_leadsTo 93 = .ok (.sipush 300, 3) := by decide +kernel
theorem dX6_leadsTo_96 : decode cX6_leadsTo 96 = .ok (.isub, 1) := by decide +kernel
theorem dX6_leadsTo_97 : decode cX6_leadsTo 97 = .ok (.iaload, 1) := by decide +kernel
theorem dX6_leadsTo_98 : decode cX6_leadsTo 98 = .ok (.iadd, 1) := by decide +kernel
theorem dX6_leadsTo_99 : decode cX6_leadsTo 99 = .ok (.iaload, 1) := by decide +kernel
theorem dX6_leadsTo_100 : decode cX6_leadsTo 100 = .ok (.ireturn, 1) := by decide +kernel
theorem dX6_wayText_0 : decode cX6_wayText 0 = .ok (.aload_n 0, 1) := by decide +kernel
theorem dX6_wayText_1 : decode cX6_wayText 1 = .ok (.getfield 7, 3) := by decide +kernel
theorem dX6_wayText_4 : decode cX6_wayText 4 = .ok (.bipush 8, 2) := by decide +kernel
theorem dX6_wayText_6 : decode cX6_wayText 6 = .ok (.iload_n 1, 1) := by decide +kernel
theorem dX6_wayText_7 : decode cX6_wayText 7 = .ok (.imul, 1) := by decide +kernel
theorem dX6_wayText_8 : decode cX6_wayText 8 = .ok (.iload_n 2, 1) := by decide +kernel
theorem dX6_wayText_9 : decode cX6_wayText 9 = .ok (.iadd, 1) := by decide +kernel
theorem dX6_wayText_10 : decode cX6_wayText 10 = .ok (.iaload, 1) := by decide +kernel
theorem dX6_wayText_11 : decode cX6_wayText 11 = .ok (.istore 4, 2) := by decide +kernel
theorem dX6_wayText_13 : decode cX6_wayText 13 = .ok (.iload 4, 2) := by decide +kernel
theorem dX6_wayText_15 : decode cX6_wayText 15 = .ok (.iconst (-1), 1) := by decide +kernel
theorem dX6_wayText_16 : decode cX6_wayText 16 = .ok (.if_icmp .ne 6, 3) := by decide +kernel
theorem dX6_wayText_19 : decode cX6_wayText 19 = .ok (.bipush 25, 2) := by decide +kernel
theorem dX6_wayText_21 : decode cX6_wayText 21 = .ok (.ireturn, 1) := by decide +kernel
theorem dX6_wayText_22 : decode cX6_wayText 22 = .ok (.iload 4, 2) := by decide +kernel
theorem dX6_wayText_24 : decode cX6_wayText 24 = .ok (.sipush 200, 3) := by decide +kernel
theorem dX6_wayText_27 : decode cX6_wayText 27 = .ok (.sipush 249, 3) := by decide +kernel
theorem dX6_wayText_30 : decode cX6_wayText 30 = .ok (.invokestatic 84, 3) := by decide +kernel
theorem dX6_wayText_33 : decode cX6_wayText 33 = .ok (.ifCond .eq 13, 3) := by decide +kernel
theorem dX6_wayText_36 : decode cX6_wayText 36 = .ok (.bipush 50, 2) := by decide +kernel
theorem dX6_wayText_38 : decode cX6_wayText 38 = .ok (.iload 4, 2) := by decide +kernel
theorem dX6_wayText_40 : decode cX6_wayText 40 = .ok (.iadd, 1) := by decide +kernel
theorem dX6_wayText_41 : decode cX6_wayText 41 = .ok (.sipush 200, 3) := by decide +kernel
theorem dX6_wayText_44 : decode cX6_wayText 44 = .ok (.isub, 1) := by decide +kernel
theorem dX6_wayText_45 : decode cX6_wayText 45 = .ok (.ireturn, 1) := by decide +kernel
theorem dX6_wayText_46 : decode cX6_wayText 46 = .ok (.iload 4, 2) := by decide +kernel
theorem dX6_wayText_48 : decode cX6_wayText 48 = .ok (.bipush 100, 2) := by decide +kernel
theorem dX6_wayText_50 : decode cX6_wayText 50 = .ok (.sipush 199, 3) := by decide +kernel
theorem dX6_wayText_53 : decode cX6_wayText 53 = .ok (.invokestatic 84, 3) := by decide +kernel
theorem dX6_wayText_56 : decode cX6_wayText 56 = .ok (.ifCond .eq 37, 3) := by decide +kernel
theorem dX6_wayText_59 : decode cX6_wayText 59 = .ok (.aload_n 0, 1) := by decide +kernel
theorem dX6_wayText_60 : decode cX6_wayText 60 = .ok (.getfield 25, 3) := by decide +kernel
theorem dX6_wayText_63 : decode cX6_wayText 63 = .ok (.iload 4, 2) := by decide +kernel
theorem dX6_wayText_65 : decode cX6_wayText 65 = .ok (.bipush 100, 2) := by decide +kernel
theorem dX6_wayText_67 : decode cX6_wayText 67 = .ok (.isub, 1) := by decide +kernel
theorem dX6_wayText_68 : decode cX6_wayText 68 = .ok (.baload, 1) := by decide +kernel
theorem dX6_wayText_69 : decode cX6_wayText 69 = .ok (.ifCond .ne 24, 3) := by decide +kernel
theorem dX6_wayText_72 : decode cX6_wayText 72 = .ok (.aload_n 0, 1) := by decide +kernel
theorem dX6_wayText_73 : decode cX6_wayText 73 = .ok (.getfield 29, 3) := by decide +kernel
theorem dX6_wayText_76 : decode cX6_wayText 76 = .ok (.iload 4, 2) := by decide +kernel
theorem dX6_wayText_78 : decode cX6_wayText 78 = .ok (.bipush 100, 2) := by decide +kernel
theorem dX6_wayText_80 : decode cX6_wayText 80 = .ok (.isub, 1) := by decide +kernel
theorem dX6_wayText_81 : decode cX6_wayText 81 = .ok (.baload, 1) := by decide +kernel
theorem dX6_wayText_82 : decode cX6_wayText 82 = .ok (.ifCond .eq 8, 3) := by decide +kernel
theorem dX6_wayText_85 : decode cX6_wayText 85 = .ok (.bipush 27, 2) := by decide +kernel
theorem dX6_wayText_87 : decode cX6_wayText 87 = .ok (.goto 5, 3) := by decide +kernel
theorem dX6_wayText_90 : decode cX6_wayText 90 = .ok (.bipush 26, 2) := by decide +kernel
theorem dX6_wayText_92 : decode cX6_wayText 92 = .ok (.ireturn, 1) := by decide +kernel
theorem dX6_wayText_93 : decode cX6_wayText 93 = .ok (.aload_n 0, 1) := by decide +kernel
theorem dX6_wayText_94 : decode cX6_wayText 94 = .ok (.iload_n 1, 1) := by decide +kernel
theorem dX6_wayText_95 : decode cX6_wayText 95 = .ok (.iload_n 2, 1) := by decide +kernel
theorem dX6_wayText_96 : decode cX6_wayText 96 = .ok (.invokevirtual 150, 3) := by decide +kernel
theorem dX6_wayText_99 : decode cX6_wayText 99 = .ok (.ifCond .ge 8, 3) := by decide +kernel
theorem dX6_wayText_102 : decode cX6_wayText 102 = .ok (.bipush 28, 2) := by decide +kernel
theorem dX6_wayText_104 : decode cX6_wayText 104 = .ok (.goto 24, 3) := by decide +kernel
theorem dX6_wayText_107 : decode cX6_wayText 107 = .ok (.iload_n 3, 1) := by decide +kernel
theorem dX6_wayText_108 : decode cX6_wayText 108 = .ok (.aload_n 0, 1) := by decide +kernel
theorem dX6_wayText_109 : decode cX6_wayText 109 = .ok (.getfield 13, 3) := by decide +kernel
theorem dX6_wayText_112 : decode cX6_wayText 112 = .ok (.bipush 8, 2) := by decide +kernel
theorem dX6_wayText_114 : decode cX6_wayText 114 = .ok (.iload_n 1, 1) := by decide +kernel
theorem dX6_wayText_115 : decode cX6_wayText 115 = .ok (.imul, 1) := by decide +kernel
theorem dX6_wayText_116 : decode cX6_wayText 116 = .ok (.iload_n 2, 1) := by decide +kernel
theorem dX6_wayText_117 : decode cX6_wayText 117 = .ok (.iadd, 1) := by decide +kernel
theorem dX6_wayText_118 : decode cX6_wayText 118 = .ok (.iaload, 1) := by decide +kernel
theorem dX6_wayText_119 : decode cX6_wayText 119 = .ok (.if_icmp .le 8, 3) := by decide +kernel
theorem dX6_wayText_122 : decode cX6_wayText 122 = .ok (.bipush 29, 2) := by decide +kernel
theorem dX6_wayText_124 : decode cX6_wayText 124 = .ok (.goto 4, 3) := by decide +kernel
theorem dX6_wayText_127 : decode cX6_wayText 127 = .ok (.iconst 0, 1) := by decide +kernel
theorem dX6_wayText_128 : decode cX6_wayText 128 = .ok (.ireturn, 1) := by decide +kernel
theorem dX6_tell_0 : decode cX6_tell 0 = .ok (.bipush 7, 2) := by decide +kernel
theorem dX6_tell_2 : decode cX6_tell 2 = .ok (.istore_n 3, 1) := by decide +kernel
theorem dX6_tell_3 : decode cX6_tell 3 = .ok (.iload_n 3, 1) := by decide +kernel
theorem dX6_tell_4 : decode cX6_tell 4 = .ok (.ifCond .le 33, 3) := by decide +kernel
theorem dX6_tell_7 : decode cX6_tell 7 = .ok (.aload_n 0, 1) := by decide +kernel
theorem dX6_tell_8 : decode cX6_tell 8 = .ok (.getfield 56, 3) := by decide +kernel
theorem dX6_tell_11 : decode cX6_tell 11 = .ok (.bipush 8, 2) := by decide +kernel
theorem dX6_tell_13 : decode cX6_tell 13 = .ok (.iload_n 1, 1) := by decide +kernel
theorem dX6_tell_14 : decode cX6_tell 14 = .ok (.imul, 1) := by decide +kernel
theorem dX6_tell_15 : decode cX6_tell 15 = .ok (.iload_n 3, 1) := by decide +kernel
theorem dX6_tell_16 : decode cX6_tell 16 = .ok (.iadd, 1) := by decide +kernel
theorem dX6_tell_17 : decode cX6_tell 17 = .ok (.aload_n 0, 1) := by decide +kernel
theorem dX6_tell_18 : decode cX6_tell 18 = .ok (.getfield 56, 3) := by decide +kernel
theorem dX6_tell_21 : decode cX6_tell 21 = .ok (.bipush 8, 2) := by decide +kernel
theorem dX6_tell_23 : decode cX6_tell 23 = .ok (.iload_n 1, 1) := by decide +kernel
theorem dX6_tell_24 : decode cX6_tell 24 = .ok (.imul, 1) := by decide +kernel
theorem dX6_tell_25 : decode cX6_tell 25 = .ok (.iload_n 3, 1) := by decide +kernel
theorem dX6_tell_26 : decode cX6_tell 26 = .ok (.iadd, 1) := by decide +kernel
theorem dX6_tell_27 : decode cX6_tell 27 = .ok (.iconst 1, 1) := by decide +kernel
theorem dX6_tell_28 : decode cX6_tell 28 = .ok (.isub, 1) := by decide +kernel
theorem dX6_tell_29 : decode cX6_tell 29 = .ok (.iaload, 1) := by decide +kernel
theorem dX6_tell_30 : decode cX6_tell 30 = .ok (.iastore, 1) := by decide +kernel
theorem dX6_tell_31 : decode cX6_tell 31 = .ok (.iinc 3 (-1), 3) := by decide +kernel
theorem dX6_tell_34 : decode cX6_tell 34 = .ok (.goto (-31), 3) := by decide +kernel
theorem dX6_tell_37 : decode cX6_tell 37 = .ok (.aload_n 0, 1) := by decide +kernel
theorem dX6_tell_38 : decode cX6_tell 38 = .ok (.getfield 56, 3) := by decide +kernel
theorem dX6_tell_41 : decode cX6_tell 41 = .ok (.bipush 8, 2) := by decide +kernel
theorem dX6_tell_43 : decode cX6_tell 43 = .ok (.iload_n 1, 1) := by decide +kernel
theorem dX6_tell_44 : decode cX6_tell 44 = .ok (.imul, 1) := by decide +kernel
theorem dX6_tell_45 : decode cX6_tell 45 = .ok (.iload_n 2, 1) := by decide +kernel
theorem dX6_tell_46 : decode cX6_tell 46 = .ok (.iastore, 1) := by decide +kernel
theorem dX6_tell_47 : decode cX6_tell 47 = .ok (.aload_n 0, 1) := by decide +kernel
theorem dX6_tell_48 : decode cX6_tell 48 = .ok (.getfield 59, 3) := by decide +kernel
theorem dX6_tell_51 : decode cX6_tell 51 = .ok (.iload_n 1, 1) := by decide +kernel
theorem dX6_tell_52 : decode cX6_tell 52 = .ok (.dup2, 1) := by decide +kernel
theorem dX6_tell_53 : decode cX6_tell 53 = .ok (.iaload, 1) := by decide +kernel
theorem dX6_tell_54 : decode cX6_tell 54 = .ok (.aload_n 0, 1) := by decide +kernel
theorem dX6_tell_55 : decode cX6_tell 55 = .ok (.getfield 59, 3) := by decide +kernel
theorem dX6_tell_58 : decode cX6_tell 58 = .ok (.iload_n 1, 1) := by decide +kernel
theorem dX6_tell_59 : decode cX6_tell 59 = .ok (.iaload, 1) := by decide +kernel
theorem dX6_tell_60 : decode cX6_tell 60 = .ok (.bipush 8, 2) := by decide +kernel
theorem dX6_tell_62 : decode cX6_tell 62 = .ok (.if_icmp .ge 7, 3) := by decide +kernel
theorem dX6_tell_65 : decode cX6_tell 65 = .ok (.iconst 1, 1) := by decide +kernel
theorem dX6_tell_66 : decode cX6_tell 66 = .ok (.goto 4, 3) := by decide +kernel
theorem dX6_tell_69 : decode cX6_tell 69 = .ok (.iconst 0, 1) := by decide +kernel
theorem dX6_tell_70 : decode cX6_tell 70 = .ok (.iadd, 1) := by decide +kernel
theorem dX6_tell_71 : decode cX6_tell 71 = .ok (.iastore, 1) := by decide +kernel
theorem dX6_tell_72 : decode cX6_tell 72 = .ok (.return_, 1) := by decide +kernel
theorem dX6_tellIn_0 : decode cX6_tellIn 0 = .ok (.iconst 0, 1) := by decide +kernel
theorem dX6_tellIn_1 : decode cX6_tellIn 1 = .ok (.istore 4, 2) := by decide +kernel
theorem dX6_tellIn_3 : decode cX6_tellIn 3 = .ok (.iload 4, 2) := by decide +kernel
theorem dX6_tellIn_5 : decode cX6_tellIn 5 = .ok (.aload_n 0, 1) := by decide +kernel
theorem dX6_tellIn_6 : decode cX6_tellIn 6 = .ok (.getfield 94, 3) := by decide +kernel
theorem dX6_tellIn_9 : decode cX6_tellIn 9 = .ok (.if_icmp .ge 36, 3) := by decide +kernel
theorem dX6_tellIn_12 : decode cX6_tellIn 12 = .ok (.aload_n 0, 1) := by decide +kernel
theorem dX6_tellIn_13 : decode cX6_tellIn 13 = .ok (.getfield 47, 3) := by decide +kernel
theorem dX6_tellIn_16 : decode cX6_tellIn 16 = .ok (.iload 4, 2) := by decide +kernel
theorem dX6_tellIn_18 : decode cX6_tellIn 18 = .ok (.iaload, 1) := by decide +kernel
theorem dX6_tellIn_19 : decode cX6_tellIn 19 = .ok (.iload_n 1, 1) := by decide +kernel
theorem dX6_tellIn_20 : decode cX6_tellIn 20 = .ok (.if_icmp .ne 19, 3) := by decide +kernel
theorem dX6_tellIn_23 : decode cX6_tellIn 23 = .ok (.iload_n 2, 1) := by decide +kernel
theorem dX6_tellIn_24 : decode cX6_tellIn 24 = .ok (.iload 4, 2) := by decide +kernel
theorem dX6_tellIn_26 : decode cX6_tellIn 26 = .ok (.ishr, 1) := by decide +kernel
theorem dX6_tellIn_27 : decode cX6_tellIn 27 = .ok (.iconst 1, 1) := by decide +kernel
theorem dX6_tellIn_28 : decode cX6_tellIn 28 = .ok (.iand, 1) := by decide +kernel
theorem dX6_tellIn_29 : decode cX6_tellIn 29 = .ok (.ifCond .ne 10, 3) := by decide +kernel
theorem dX6_tellIn_32 : decode cX6_tellIn 32 = .ok (.aload_n 0, 1) := by decide +kernel
theorem dX6_tellIn_33 : decode cX6_tellIn 33 = .ok (.iload 4, 2) := by decide +kernel
theorem dX6_tellIn_35 : decode cX6_tellIn 35 = .ok (.iload_n 3, 1) := by decide +kernel
theorem dX6_tellIn_36 : decode cX6_tellIn 36 = .ok (.invokevirtual 153, 3) := by decide +kernel
theorem dX6_tellIn_39 : decode cX6_tellIn 39 = .ok (.iinc 4 1, 3) := by decide +kernel
theorem dX6_tellIn_42 : decode cX6_tellIn 42 = .ok (.goto (-39), 3) := by decide +kernel
theorem dX6_tellIn_45 : decode cX6_tellIn 45 = .ok (.return_, 1) := by decide +kernel
theorem dX6_move_0 : decode cX6_move 0 = .ok (.aload_n 0, 1) := by decide +kernel
theorem dX6_move_1 : decode cX6_move 1 = .ok (.iload_n 3, 1) := by decide +kernel
theorem dX6_move_2 : decode cX6_move 2 = .ok (.iload 4, 2) := by decide +kernel
theorem dX6_move_4 : decode cX6_move 4 = .ok (.invokevirtual 150, 3) := by decide +kernel
theorem dX6_move_7 : decode cX6_move 7 = .ok (.istore 5, 2) := by decide +kernel
theorem dX6_move_9 : decode cX6_move 9 = .ok (.aload_n 0, 1) := by decide +kernel
theorem dX6_move_10 : decode cX6_move 10 = .ok (.getfield 7, 3) := by decide +kernel
theorem dX6_move_13 : decode cX6_move 13 = .ok (.bipush 8, 2) := by decide +kernel
theorem dX6_move_15 : decode cX6_move 15 = .ok (.iload_n 3, 1) := by decide +kernel
theorem dX6_move_16 : decode cX6_move 16 = .ok (.imul, 1) := by decide +kernel
theorem dX6_move_17 : decode cX6_move 17 = .ok (.iload 4, 2) := by decide +kernel
theorem dX6_move_19 : decode cX6_move 19 = .ok (.iadd, 1) := by decide +kernel
theorem dX6_move_20 : decode cX6_move 20 = .ok (.iaload, 1) := by decide +kernel
theorem dX6_move_21 : decode cX6_move 21 = .ok (.istore 6, 2) := by decide +kernel
theorem dX6_move_23 : decode cX6_move 23 = .ok (.iload 6, 2) := by decide +kernel
theorem dX6_move_25 : decode cX6_move 25 = .ok (.sipush 300, 3) := by decide +kernel
theorem dX6_move_28 : decode cX6_move 28 = .ok (.if_icmp .lt 39, 3) := by decide +kernel
theorem dX6_move_31 : decode cX6_move 31 = .ok (.aload_n 0, 1) := by decide +kernel
theorem dX6_move_32 : decode cX6_move 32 = .ok (.getfield 68, 3) := by decide +kernel
theorem dX6_move_35 : decode cX6_move 35 = .ok (.iload 6, 2) := by decide +kernel
theorem dX6_move_37 : decode cX6_move 37 = .ok (.sipush 300, 3) := by decide +kernel
theorem dX6_move_40 : decode cX6_move 40 = .ok (.isub, 1) := by decide +kernel
theorem dX6_move_41 : decode cX6_move 41 = .ok (.aload_n 0, 1) := by decide +kernel
theorem dX6_move_42 : decode cX6_move 42 = .ok (.getfield 68, 3) := by decide +kernel
theorem dX6_move_45 : decode cX6_move 45 = .ok (.iload 6, 2) := by decide +kernel
theorem dX6_move_47 : decode cX6_move 47 = .ok (.sipush 300, 3) := by decide +kernel
theorem dX6_move_50 : decode cX6_move 50 = .ok (.isub, 1) := by decide +kernel
theorem dX6_move_51 : decode cX6_move 51 = .ok (.iaload, 1) := by decide +kernel
theorem dX6_move_52 : decode cX6_move 52 = .ok (.iconst 1, 1) := by decide +kernel
theorem dX6_move_53 : decode cX6_move 53 = .ok (.iadd, 1) := by decide +kernel
theorem dX6_move_54 : decode cX6_move 54 = .ok (.aload_n 0, 1) := by decide +kernel
theorem dX6_move_55 : decode cX6_move 55 = .ok (.getfield 65, 3) := by decide +kernel
theorem dX6_move_58 : decode cX6_move 58 = .ok (.iload 6, 2) := by decide +kernel
theorem dX6_move_60 : decode cX6_move 60 = .ok (.sipush 300, 3) := by decide +kernel
theorem dX6_move_63 : decode cX6_move 63 = .ok (.isub, 1) := by decide +kernel
theorem dX6_move_64 : decode cX6_move 64 = .ok (.iaload, 1) := by decide +kernel
theorem dX6_move_65 : decode cX6_move 65 = .ok (.irem, 1) := by decide +kernel
theorem dX6_move_66 : decode cX6_move 66 = .ok (.iastore, 1) := by decide +kernel
theorem dX6_move_67 : decode cX6_move 67 = .ok (.iconst 0, 1) := by decide +kernel
theorem dX6_move_68 : decode cX6_move 68 = .ok (.istore 7, 2) := by decide +kernel
theorem dX6_move_70 : decode cX6_move 70 = .ok (.iload 7, 2) := by decide +kernel
theorem dX6_move_72 : decode cX6_move 72 = .ok (.aload_n 0, 1) := by decide +kernel
theorem dX6_move_73 : decode cX6_move 73 = .ok (.getfield 94, 3) := by decide +kernel
theorem dX6_move_76 : decode cX6_move 76 = .ok (.if_icmp .ge 58, 3) := by decide +kernel
theorem dX6_move_79 : decode cX6_move 79 = .ok (.iload_n 1, 1) := by decide +kernel
theorem dX6_move_80 : decode cX6_move 80 = .ok (.iload 7, 2) := by decide +kernel
theorem dX6_move_82 : decode cX6_move 82 = .ok (.ishr, 1) := by decide +kernel
theorem dX6_move_83 : decode cX6_move 83 = .ok (.iconst 1, 1) := by decide +kernel
theorem dX6_move_84 : decode cX6_move 84 = .ok (.iand, 1) := by decide +kernel
theorem dX6_move_85 : decode cX6_move 85 = .ok (.iconst 1, 1) := by decide +kernel
theorem dX6_move_86 : decode cX6_move 86 = .ok (.if_icmp .ne 42, 3) := by decide +kernel
theorem dX6_move_89 : decode cX6_move 89 = .ok (.aload_n 0, 1) := by decide +kernel
theorem dX6_move_90 : decode cX6_move 90 = .ok (.iload_n 3, 1) := by decide +kernel
theorem dX6_move_91 : decode cX6_move 91 = .ok (.iload_n 1, 1) := by decide +kernel
theorem dX6_move_92 : decode cX6_move 92 = .ok (.sipush 1000, 3) := by decide +kernel
theorem dX6_move_95 : decode cX6_move 95 = .ok (.iload 7, 2) := by decide +kernel
theorem dX6_move_97 : decode cX6_move 97 = .ok (.imul, 1) := by decide +kernel
theorem dX6_move_98 : decode cX6_move 98 = .ok (.bipush 10, 2) := by decide +kernel
theorem dX6_move_100 : decode cX6_move 100 = .ok (.iload 4, 2) := by decide +kernel
theorem dX6_move_102 : decode cX6_move 102 = .ok (.imul, 1) := by decide +kernel
theorem dX6_move_103 : decode cX6_move 103 = .ok (.iadd, 1) := by decide +kernel
theorem dX6_move_104 : decode cX6_move 104 = .ok (.invokevirtual 157, 3) := by decide +kernel
theorem dX6_move_107 : decode cX6_move 107 = .ok (.aload_n 0, 1) := by decide +kernel
theorem dX6_move_108 : decode cX6_move 108 = .ok (.iload 5, 2) := by decide +kernel
theorem dX6_move_110 : decode cX6_move 110 = .ok (.iload_n 1, 1) := by decide +kernel
theorem dX6_move_111 : decode cX6_move 111 = .ok (.sipush 1000, 3) := by decide +kernel
theorem dX6_move_114 : decode cX6_move 114 = .ok (.iload 7, 2) := by decide +kernel
theorem dX6_move_116 : decode cX6_move 116 = .ok (.imul, 1) := by decide +kernel
theorem dX6_move_117 : decode cX6_move 117 = .ok (.bipush 10, 2) := by decide +kernel
theorem dX6_move_119 : decode cX6_move 119 = .ok (.iload 4, 2) := by decide +kernel
theorem dX6_move_121 : decode cX6_move 121 = .ok (.imul, 1) := by decide +kernel
theorem dX6_move_122 : decode cX6_move 122 = .ok (.iadd, 1) := by decide +kernel
theorem dX6_move_123 : decode cX6_move 123 = .ok (.iconst 1, 1) := by decide +kernel
theorem dX6_move_124 : decode cX6_move 124 = .ok (.iadd, 1) := by decide +kernel
theorem dX6_move_125 : decode cX6_move 125 = .ok (.invokevirtual 157, 3) := by decide +kernel
theorem dX6_move_128 : decode cX6_move 128 = .ok (.iinc 7 1, 3) := by decide +kernel
theorem dX6_move_131 : decode cX6_move 131 = .ok (.goto (-61), 3) := by decide +kernel
theorem dX6_move_134 : decode cX6_move 134 = .ok (.iconst 0, 1) := by decide +kernel
theorem dX6_move_135 : decode cX6_move 135 = .ok (.istore 7, 2) := by decide +kernel
theorem dX6_move_137 : decode cX6_move 137 = .ok (.iload 7, 2) := by decide +kernel
theorem dX6_move_139 : decode cX6_move 139 = .ok (.aload_n 0, 1) := by decide +kernel
theorem dX6_move_140 : decode cX6_move 140 = .ok (.getfield 94, 3) := by decide +kernel
theorem dX6_move_143 : decode cX6_move 143 = .ok (.if_icmp .ge 36, 3) := by decide +kernel
theorem dX6_move_146 : decode cX6_move 146 = .ok (.iload_n 1, 1) := by decide +kernel
theorem dX6_move_147 : decode cX6_move 147 = .ok (.iload 7, 2) := by decide +kernel
theorem dX6_move_149 : decode cX6_move 149 = .ok (.ishr, 1) := by decide +kernel
theorem dX6_move_150 : decode cX6_move 150 = .ok (.iconst 1, 1) := by decide +kernel
theorem dX6_move_151 : decode cX6_move 151 = .ok (.iand, 1) := by decide +kernel
theorem dX6_move_152 : decode cX6_move 152 = .ok (.iconst 1, 1) := by decide +kernel
theorem dX6_move_153 : decode cX6_move 153 = .ok (.if_icmp .ne 20, 3) := by decide +kernel
theorem dX6_move_156 : decode cX6_move 156 = .ok (.aload_n 0, 1) := by decide +kernel
theorem dX6_move_157 : decode cX6_move 157 = .ok (.getfield 53, 3) := by decide +kernel
theorem dX6_move_160 : decode cX6_move 160 = .ok (.iload 7, 2) := by decide +kernel
theorem dX6_move_162 : decode cX6_move 162 = .ok (.iload_n 3, 1) := by decide +kernel
theorem dX6_move_163 : decode cX6_move 163 = .ok (.iastore, 1) := by decide +kernel
theorem dX6_move_164 : decode cX6_move 164 = .ok (.aload_n 0, 1) := by decide +kernel
theorem dX6_move_165 : decode cX6_move 165 = .ok (.getfield 47, 3) := by decide +kernel
theorem dX6_move_168 : decode cX6_move 168 = .ok (.iload 7, 2) := by decide +kernel
theorem dX6_move_170 : decode cX6_move 170 = .ok (.iload 5, 2) := by decide +kernel
theorem dX6_move_172 : decode cX6_move 172 = .ok (.iastore, 1) := by decide +kernel
