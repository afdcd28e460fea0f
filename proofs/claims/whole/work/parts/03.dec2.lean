theorem dX5_follow_58 : decode cX5_follow 58 = .ok (.invokevirtual 198, 3) := by decide +kernel
theorem dX5_follow_61 : decode cX5_follow 61 = .ok (.iconst (-1), 1) := by decide +kernel
theorem dX5_follow_62 : decode cX5_follow 62 = .ok (.if_icmp .ne 6, 3) := by decide +kernel
theorem dX5_follow_65 : decode cX5_follow 65 = .ok (.bipush (-31), 2) := by decide +kernel
theorem dX5_follow_67 : decode cX5_follow 67 = .ok (.ireturn, 1) := by decide +kernel
theorem dX5_follow_68 : decode cX5_follow 68 = .ok (.aload_n 0, 1) := by decide +kernel
theorem dX5_follow_69 : decode cX5_follow 69 = .ok (.aload_n 3, 1) := by decide +kernel
theorem dX5_follow_70 : decode cX5_follow 70 = .ok (.aload_n 0, 1) := by decide +kernel
theorem dX5_follow_71 : decode cX5_follow 71 = .ok (.getfield 46, 3) := by decide +kernel
theorem dX5_follow_74 : decode cX5_follow 74 = .ok (.aload 4, 2) := by decide +kernel
theorem dX5_follow_76 : decode cX5_follow 76 = .ok (.getfield 191, 3) := by decide +kernel
theorem dX5_follow_79 : decode cX5_follow 79 = .ok (.iconst 0, 1) := by decide +kernel
theorem dX5_follow_80 : decode cX5_follow 80 = .ok (.invokevirtual 201, 3) := by decide +kernel
theorem dX5_follow_83 : decode cX5_follow 83 = .ok (.invokevirtual 179, 3) := by decide +kernel
theorem dX5_follow_86 : decode cX5_follow 86 = .ok (.ireturn, 1) := by decide +kernel
theorem dX5_route_0 : decode cX5_route 0 = .ok (.aload_n 0, 1) := by decide +kernel
theorem dX5_route_1 : decode cX5_route 1 = .ok (.iload_n 1, 1) := by decide +kernel
theorem dX5_route_2 : decode cX5_route 2 = .ok (.invokevirtual 61, 3) := by decide +kernel
theorem dX5_route_5 : decode cX5_route 5 = .ok (.ifCond .eq 16, 3) := by decide +kernel
theorem dX5_route_8 : decode cX5_route 8 = .ok (.aload_n 0, 1) := by decide +kernel
theorem dX5_route_9 : decode cX5_route 9 = .ok (.iload_n 2, 1) := by decide +kernel
theorem dX5_route_10 : decode cX5_route 10 = .ok (.invokevirtual 61, 3) := by decide +kernel
theorem dX5_route_13 : decode cX5_route 13 = .ok (.ifCond .eq 8, 3) := by decide +kernel
theorem dX5_route_16 : decode cX5_route 16 = .ok (.iload_n 3, 1) := by decide +kernel
theorem dX5_route_17 : decode cX5_route 17 = .ok (.iconst (-1), 1) := by decide +kernel
theorem dX5_route_18 : decode cX5_route 18 = .ok (.if_icmp .ge 5, 3) := by decide +kernel
theorem dX5_route_21 : decode cX5_route 21 = .ok (.iconst (-1), 1) := by decide +kernel
theorem dX5_route_22 : decode cX5_route 22 = .ok (.ireturn, 1) := by decide +kernel
theorem dX5_route_23 : decode cX5_route 23 = .ok (.aload_n 0, 1) := by decide +kernel
theorem dX5_route_24 : decode cX5_route 24 = .ok (.iload_n 1, 1) := by decide +kernel
theorem dX5_route_25 : decode cX5_route 25 = .ok (.invokevirtual 194, 3) := by decide +kernel
theorem dX5_route_28 : decode cX5_route 28 = .ok (.aload_n 0, 1) := by decide +kernel
theorem dX5_route_29 : decode cX5_route 29 = .ok (.getfield 46, 3) := by decide +kernel
theorem dX5_route_32 : decode cX5_route 32 = .ok (.iload_n 2, 1) := by decide +kernel
theorem dX5_route_33 : decode cX5_route 33 = .ok (.invokevirtual 198, 3) := by decide +kernel
theorem dX5_route_36 : decode cX5_route 36 = .ok (.istore 4, 2) := by decide +kernel
theorem dX5_route_38 : decode cX5_route 38 = .ok (.iload 4, 2) := by decide +kernel
theorem dX5_route_40 : decode cX5_route 40 = .ok (.iconst (-1), 1) := by decide +kernel
theorem dX5_route_41 : decode cX5_route 41 = .ok (.if_icmp .eq 9, 3) := by decide +kernel
theorem dX5_route_44 : decode cX5_route 44 = .ok (.iload_n 3, 1) := by decide +kernel
theorem dX5_route_45 : decode cX5_route 45 = .ok (.iload 4, 2) := by decide +kernel
theorem dX5_route_47 : decode cX5_route 47 = .ok (.if_icmp .lt 5, 3) := by decide +kernel
theorem dX5_route_50 : decode cX5_route 50 = .ok (.iconst (-1), 1) := by decide +kernel
theorem dX5_route_51 : decode cX5_route 51 = .ok (.ireturn, 1) := by decide +kernel
theorem dX5_route_52 : decode cX5_route 52 = .ok (.iload_n 3, 1) := by decide +kernel
theorem dX5_route_53 : decode cX5_route 53 = .ok (.iconst (-1), 1) := by decide +kernel
theorem dX5_route_54 : decode cX5_route 54 = .ok (.if_icmp .ne 8, 3) := by decide +kernel
theorem dX5_route_57 : decode cX5_route 57 = .ok (.iload 4, 2) := by decide +kernel
theorem dX5_route_59 : decode cX5_route 59 = .ok (.goto 12, 3) := by decide +kernel
theorem dX5_route_62 : decode cX5_route 62 = .ok (.aload_n 0, 1) := by decide +kernel
theorem dX5_route_63 : decode cX5_route 63 = .ok (.getfield 46, 3) := by decide +kernel
theorem dX5_route_66 : decode cX5_route 66 = .ok (.iload_n 2, 1) := by decide +kernel
theorem dX5_route_67 : decode cX5_route 67 = .ok (.iload_n 3, 1) := by decide +kernel
theorem dX5_route_68 : decode cX5_route 68 = .ok (.invokevirtual 201, 3) := by decide +kernel
theorem dX5_route_71 : decode cX5_route 71 = .ok (.ireturn, 1) := by decide +kernel
theorem dX5_way_0 : decode cX5_way 0 = .ok (.aload_n 0, 1) := by decide +kernel
theorem dX5_way_1 : decode cX5_way 1 = .ok (.iload_n 1, 1) := by decide +kernel
theorem dX5_way_2 : decode cX5_way 2 = .ok (.iload_n 2, 1) := by decide +kernel
theorem dX5_way_3 : decode cX5_way 3 = .ok (.invokevirtual 71, 3) := by decide +kernel
theorem dX5_way_6 : decode cX5_way 6 = .ok (.ifCond .eq 16, 3) := by decide +kernel
theorem dX5_way_9 : decode cX5_way 9 = .ok (.aload_n 0, 1) := by decide +kernel
theorem dX5_way_10 : decode cX5_way 10 = .ok (.getfield 9, 3) := by decide +kernel
theorem dX5_way_13 : decode cX5_way 13 = .ok (.iload_n 1, 1) := by decide +kernel
theorem dX5_way_14 : decode cX5_way 14 = .ok (.iload_n 2, 1) := by decide +kernel
theorem dX5_way_15 : decode cX5_way 15 = .ok (.invokestatic 78, 3) := by decide +kernel
theorem dX5_way_18 : decode cX5_way 18 = .ok (.iaload, 1) := by decide +kernel
theorem dX5_way_19 : decode cX5_way 19 = .ok (.goto 4, 3) := by decide +kernel
theorem dX5_way_22 : decode cX5_way 22 = .ok (.iconst (-1), 1) := by decide +kernel
theorem dX5_way_23 : decode cX5_way 23 = .ok (.ireturn, 1) := by decide +kernel
theorem dX5_leads_0 : decode cX5_leads 0 = .ok (.aload_n 0, 1) := by decide +kernel
theorem dX5_leads_1 : decode cX5_leads 1 = .ok (.iload_n 1, 1) := by decide +kernel
theorem dX5_leads_2 : decode cX5_leads 2 = .ok (.iload_n 2, 1) := by decide +kernel
theorem dX5_leads_3 : decode cX5_leads 3 = .ok (.invokevirtual 204, 3) := by decide +kernel
theorem dX5_leads_6 : decode cX5_leads 6 = .ok (.istore_n 3, 1) := by decide +kernel
theorem dX5_leads_7 : decode cX5_leads 7 = .ok (.iload_n 3, 1) := by decide +kernel
theorem dX5_leads_8 : decode cX5_leads 8 = .ok (.iconst (-1), 1) := by decide +kernel
theorem dX5_leads_9 : decode cX5_leads 9 = .ok (.if_icmp .ne 7, 3) := by decide +kernel
theorem dX5_leads_12 : decode cX5_leads 12 = .ok (.iconst (-1), 1) := by decide +kernel
theorem dX5_leads_13 : decode cX5_leads 13 = .ok (.goto 4, 3) := by decide +kernel
theorem dX5_leads_16 : decode cX5_leads 16 = .ok (.iload_n 3, 1) := by decide +kernel
theorem dX5_leads_17 : decode cX5_leads 17 = .ok (.ireturn, 1) := by decide +kernel
theorem dX5_state_0 : decode cX5_state 0 = .ok (.aload_n 0, 1) := by decide +kernel
theorem dX5_state_1 : decode cX5_state 1 = .ok (.iload_n 1, 1) := by decide +kernel
theorem dX5_state_2 : decode cX5_state 2 = .ok (.invokevirtual 101, 3) := by decide +kernel
theorem dX5_state_5 : decode cX5_state 5 = .ok (.astore_n 2, 1) := by decide +kernel
theorem dX5_state_6 : decode cX5_state 6 = .ok (.aload_n 2, 1) := by decide +kernel
theorem dX5_state_7 : decode cX5_state 7 = .ok (.ifnonnull 5, 3) := by decide +kernel
theorem dX5_state_10 : decode cX5_state 10 = .ok (.iconst (-1), 1) := by decide +kernel
theorem dX5_state_11 : decode cX5_state 11 = .ok (.ireturn, 1) := by decide +kernel
theorem dX5_state_12 : decode cX5_state 12 = .ok (.aload_n 2, 1) := by decide +kernel
theorem dX5_state_13 : decode cX5_state 13 = .ok (.getfield 207, 3) := by decide +kernel
theorem dX5_state_16 : decode cX5_state 16 = .ok (.ifCond .eq 7, 3) := by decide +kernel
theorem dX5_state_19 : decode cX5_state 19 = .ok (.iconst 1, 1) := by decide +kernel
theorem dX5_state_20 : decode cX5_state 20 = .ok (.goto 4, 3) := by decide +kernel
theorem dX5_state_23 : decode cX5_state 23 = .ok (.iconst 0, 1) := by decide +kernel
theorem dX5_state_24 : decode cX5_state 24 = .ok (.istore_n 3, 1) := by decide +kernel
theorem dX5_state_25 : decode cX5_state 25 = .ok (.aload_n 2, 1) := by decide +kernel
theorem dX5_state_26 : decode cX5_state 26 = .ok (.getfield 116, 3) := by decide +kernel
theorem dX5_state_29 : decode cX5_state 29 = .ok (.ifCond .eq 7, 3) := by decide +kernel
theorem dX5_state_32 : decode cX5_state 32 = .ok (.iconst 2, 1) := by decide +kernel
theorem dX5_state_33 : decode cX5_state 33 = .ok (.goto 4, 3) := by decide +kernel
theorem dX5_state_36 : decode cX5_state 36 = .ok (.iconst 0, 1) := by decide +kernel
theorem dX5_state_37 : decode cX5_state 37 = .ok (.istore 4, 2) := by decide +kernel
theorem dX5_state_39 : decode cX5_state 39 = .ok (.aload_n 2, 1) := by decide +kernel
theorem dX5_state_40 : decode cX5_state 40 = .ok (.getfield 112, 3) := by decide +kernel
theorem dX5_state_43 : decode cX5_state 43 = .ok (.ifnull 7, 3) := by decide +kernel
theorem dX5_state_46 : decode cX5_state 46 = .ok (.iconst 4, 1) := by decide +kernel
theorem dX5_state_47 : decode cX5_state 47 = .ok (.goto 4, 3) := by decide +kernel
theorem dX5_state_50 : decode cX5_state 50 = .ok (.iconst 0, 1) := by decide +kernel
theorem dX5_state_51 : decode cX5_state 51 = .ok (.istore 5, 2) := by decide +kernel
theorem dX5_state_53 : decode cX5_state 53 = .ok (.aload_n 2, 1) := by decide +kernel
theorem dX5_state_54 : decode cX5_state 54 = .ok (.getfield 210, 3) := by decide +kernel
theorem dX5_state_57 : decode cX5_state 57 = .ok (.iconst (-1), 1) := by decide +kernel
theorem dX5_state_58 : decode cX5_state 58 = .ok (.if_icmp .eq 8, 3) := by decide +kernel
theorem dX5_state_61 : decode cX5_state 61 = .ok (.bipush 8, 2) := by decide +kernel
theorem dX5_state_63 : decode cX5_state 63 = .ok (.goto 4, 3) := by decide +kernel
theorem dX5_state_66 : decode cX5_state 66 = .ok (.iconst 0, 1) := by decide +kernel
theorem dX5_state_67 : decode cX5_state 67 = .ok (.istore 6, 2) := by decide +kernel
theorem dX5_state_69 : decode cX5_state 69 = .ok (.iload_n 3, 1) := by decide +kernel
theorem dX5_state_70 : decode cX5_state 70 = .ok (.iload 4, 2) := by decide +kernel
theorem dX5_state_72 : decode cX5_state 72 = .ok (.iadd, 1) := by decide +kernel
theorem dX5_state_73 : decode cX5_state 73 = .ok (.iload 5, 2) := by decide +kernel
theorem dX5_state_75 : decode cX5_state 75 = .ok (.iadd, 1) := by decide +kernel
theorem dX5_state_76 : decode cX5_state 76 = .ok (.iload 6, 2) := by decide +kernel
theorem dX5_state_78 : decode cX5_state 78 = .ok (.iadd, 1) := by decide +kernel
theorem dX5_state_79 : decode cX5_state 79 = .ok (.ireturn, 1) := by decide +kernel
theorem dX5_thingIs_0 : decode cX5_thingIs 0 = .ok (.aload_n 0, 1) := by decide +kernel
theorem dX5_thingIs_1 : decode cX5_thingIs 1 = .ok (.iload_n 1, 1) := by decide +kernel
theorem dX5_thingIs_2 : decode cX5_thingIs 2 = .ok (.invokevirtual 105, 3) := by decide +kernel
theorem dX5_thingIs_5 : decode cX5_thingIs 5 = .ok (.astore_n 3, 1) := by decide +kernel
theorem dX5_thingIs_6 : decode cX5_thingIs 6 = .ok (.aload_n 3, 1) := by decide +kernel
theorem dX5_thingIs_7 : decode cX5_thingIs 7 = .ok (.ifnonnull 5, 3) := by decide +kernel
theorem dX5_thingIs_10 : decode cX5_thingIs 10 = .ok (.iconst (-1), 1) := by decide +kernel
theorem dX5_thingIs_11 : decode cX5_thingIs 11 = .ok (.ireturn, 1) := by decide +kernel
theorem dX5_thingIs_12 : decode cX5_thingIs 12 = .ok (.iload_n 2, 1) := by decide +kernel
theorem dX5_thingIs_13 : decode cX5_thingIs 13 = .ok (.tableswitch 72 0 4 #[35, 41, 46, 51, 64], 35) := by decide +kernel
theorem dX5_thingIs_48 : decode cX5_thingIs 48 = .ok (.aload_n 0, 1) := by decide +kernel
theorem dX5_thingIs_49 : decode cX5_thingIs 49 = .ok (.aload_n 3, 1) := by decide +kernel
theorem dX5_thingIs_50 : decode cX5_thingIs 50 = .ok (.invokevirtual 213, 3) := by decide +kernel
theorem dX5_thingIs_53 : decode cX5_thingIs 53 = .ok (.ireturn, 1) := by decide +kernel
theorem dX5_thingIs_54 : decode cX5_thingIs 54 = .ok (.aload_n 3, 1) := by decide +kernel
theorem dX5_thingIs_55 : decode cX5_thingIs 55 = .ok (.getfield 109, 3) := by decide +kernel
theorem dX5_thingIs_58 : decode cX5_thingIs 58 = .ok (.ireturn, 1) := by decide +kernel
theorem dX5_thingIs_59 : decode cX5_thingIs 59 = .ok (.aload_n 3, 1) := by decide +kernel
theorem dX5_thingIs_60 : decode cX5_thingIs 60 = .ok (.getfield 217, 3) := by decide +kernel
theorem dX5_thingIs_63 : decode cX5_thingIs 63 = .ok (.ireturn, 1) := by decide +kernel
theorem dX5_thingIs_64 : decode cX5_thingIs 64 = .ok (.aload_n 3, 1) := by decide +kernel
theorem dX5_thingIs_65 : decode cX5_thingIs 65 = .ok (.getfield 173, 3) := by decide +kernel
theorem dX5_thingIs_68 : decode cX5_thingIs 68 = .ok (.ifCond .eq 7, 3) := by decide +kernel
theorem dX5_thingIs_71 : decode cX5_thingIs 71 = .ok (.iconst 1, 1) := by decide +kernel
theorem dX5_thingIs_72 : decode cX5_thingIs 72 = .ok (.goto 4, 3) := by decide +kernel
theorem dX5_thingIs_75 : decode cX5_thingIs 75 = .ok (.iconst 0, 1) := by decide +kernel
theorem dX5_thingIs_76 : decode cX5_thingIs 76 = .ok (.ireturn, 1) := by decide +kernel
theorem dX5_thingIs_77 : decode cX5_thingIs 77 = .ok (.aload_n 3, 1) := by decide +kernel
theorem dX5_thingIs_78 : decode cX5_thingIs 78 = .ok (.getfield 126, 3) := by decide +kernel
theorem dX5_thingIs_81 : decode cX5_thingIs 81 = .ok (.invokestatic 220, 3) := by decide +kernel
theorem dX5_thingIs_84 : decode cX5_thingIs 84 = .ok (.ireturn, 1) := by decide +kernel
theorem dX5_thingIs_85 : decode cX5_thingIs 85 = .ok (.iconst (-1), 1) := by decide +kernel
theorem dX5_thingIs_86 : decode cX5_thingIs 86 = .ok (.ireturn, 1) := by decide +kernel
theorem dX5_beingIs_0 : decode cX5_beingIs 0 = .ok (.aload_n 0, 1) := by decide +kernel
theorem dX5_beingIs_1 : decode cX5_beingIs 1 = .ok (.iload_n 1, 1) := by decide +kernel
theorem dX5_beingIs_2 : decode cX5_beingIs 2 = .ok (.invokevirtual 133, 3) := by decide +kernel
theorem dX5_beingIs_5 : decode cX5_beingIs 5 = .ok (.astore_n 3, 1) := by decide +kernel
theorem dX5_beingIs_6 : decode cX5_beingIs 6 = .ok (.aload_n 3, 1) := by decide +kernel
theorem dX5_beingIs_7 : decode cX5_beingIs 7 = .ok (.ifnonnull 5, 3) := by decide +kernel
theorem dX5_beingIs_10 : decode cX5_beingIs 10 = .ok (.iconst (-1), 1) := by decide +kernel
theorem dX5_beingIs_11 : decode cX5_beingIs 11 = .ok (.ireturn, 1) := by decide +kernel
theorem dX5_beingIs_12 : decode cX5_beingIs 12 = .ok (.iload_n 2, 1) := by decide +kernel
theorem dX5_beingIs_13 : decode cX5_beingIs 13 = .ok (.tableswitch 78 0 4 #[35, 40, 60, 68, 73], 35) := by decide +kernel
theorem dX5_beingIs_48 : decode cX5_beingIs 48 = .ok (.aload_n 3, 1) := by decide +kernel
theorem dX5_beingIs_49 : decode cX5_beingIs 49 = .ok (.getfield 191, 3) := by decide +kernel
theorem dX5_beingIs_52 : decode cX5_beingIs 52 = .ok (.ireturn, 1) := by decide +kernel
theorem dX5_beingIs_53 : decode cX5_beingIs 53 = .ok (.aload_n 3, 1) := by decide +kernel
theorem dX5_beingIs_54 : decode cX5_beingIs 54 = .ok (.getfield 170, 3) := by decide +kernel
theorem dX5_beingIs_57 : decode cX5_beingIs 57 = .ok (.ifnonnull 8, 3) := by decide +kernel
theorem dX5_beingIs_60 : decode cX5_beingIs 60 = .ok (.bipush (-3), 2) := by decide +kernel
theorem dX5_beingIs_62 : decode cX5_beingIs 62 = .ok (.goto 10, 3) := by decide +kernel
theorem dX5_beingIs_65 : decode cX5_beingIs 65 = .ok (.aload_n 3, 1) := by decide +kernel
theorem dX5_beingIs_66 : decode cX5_beingIs 66 = .ok (.getfield 170, 3) := by decide +kernel
theorem dX5_beingIs_69 : decode cX5_beingIs 69 = .ok (.getfield 223, 3) := by decide +kernel
theorem dX5_beingIs_72 : decode cX5_beingIs 72 = .ok (.ireturn, 1) := by decide +kernel
theorem dX5_beingIs_73 : decode cX5_beingIs 73 = .ok (.aload_n 3, 1) := by decide +kernel
theorem dX5_beingIs_74 : decode cX5_beingIs 74 = .ok (.getfield 226, 3) := by decide +kernel
theorem dX5_beingIs_77 : decode cX5_beingIs 77 = .ok (.invokestatic 220, 3) := by decide +kernel
theorem dX5_beingIs_80 : decode cX5_beingIs 80 = .ok (.ireturn, 1) := by decide +kernel
theorem dX5_beingIs_81 : decode cX5_beingIs 81 = .ok (.aload_n 3, 1) := by decide +kernel
theorem dX5_beingIs_82 : decode cX5_beingIs 82 = .ok (.getfield 229, 3) := by decide +kernel
theorem dX5_beingIs_85 : decode cX5_beingIs 85 = .ok (.ireturn, 1) := by decide +kernel
theorem dX5_beingIs_86 : decode cX5_beingIs 86 = .ok (.aload_n 3, 1) := by decide +kernel
theorem dX5_beingIs_87 : decode cX5_beingIs 87 = .ok (.getfield 232, 3) := by decide +kernel
theorem dX5_beingIs_90 : decode cX5_beingIs 90 = .ok (.ireturn, 1) := by decide +kernel
theorem dX5_beingIs_91 : decode cX5_beingIs 91 = .ok (.iconst (-1), 1) := by decide +kernel
theorem dX5_beingIs_92 : decode cX5_beingIs 92 = .ok (.ireturn, 1) := by decide +kernel
theorem dX5_news_0 : decode cX5_news 0 = .ok (.aload_n 0, 1) := by decide +kernel
theorem dX5_news_1 : decode cX5_news 1 = .ok (.iload_n 1, 1) := by decide +kernel
theorem dX5_news_2 : decode cX5_news 2 = .ok (.invokevirtual 133, 3) := by decide +kernel
theorem dX5_news_5 : decode cX5_news 5 = .ok (.astore_n 3, 1) := by decide +kernel
theorem dX5_news_6 : decode cX5_news 6 = .ok (.aload_n 3, 1) := by decide +kernel
theorem dX5_news_7 : decode cX5_news 7 = .ok (.ifnull 15, 3) := by decide +kernel
theorem dX5_news_10 : decode cX5_news 10 = .ok (.iload_n 2, 1) := by decide +kernel
theorem dX5_news_11 : decode cX5_news 11 = .ok (.ifCond .lt 11, 3) := by decide +kernel
theorem dX5_news_14 : decode cX5_news 14 = .ok (.iload_n 2, 1) := by decide +kernel
theorem dX5_news_15 : decode cX5_news 15 = .ok (.aload_n 3, 1) := by decide +kernel
theorem dX5_news_16 : decode cX5_news 16 = .ok (.getfield 232, 3) := by decide +kernel
theorem dX5_news_19 : decode cX5_news 19 = .ok (.if_icmp .lt 5, 3) := by decide +kernel
theorem dX5_news_22 : decode cX5_news 22 = .ok (.iconst (-1), 1) := by decide +kernel
theorem dX5_news_23 : decode cX5_news 23 = .ok (.ireturn, 1) := by decide +kernel
theorem dX5_news_24 : decode cX5_news 24 = .ok (.aload_n 3, 1) := by decide +kernel
theorem dX5_news_25 : decode cX5_news 25 = .ok (.getfield 235, 3) := by decide +kernel
theorem dX5_news_28 : decode cX5_news 28 = .ok (.iload_n 2, 1) := by decide +kernel
theorem dX5_news_29 : decode cX5_news 29 = .ok (.iaload, 1) := by decide +kernel
theorem dX5_news_30 : decode cX5_news 30 = .ok (.ireturn, 1) := by decide +kernel
theorem dX5_here_0 : decode cX5_here 0 = .ok (.aload_n 0, 1) := by decide +kernel
theorem dX5_here_1 : decode cX5_here 1 = .ok (.iload_n 1, 1) := by decide +kernel
theorem dX5_here_2 : decode cX5_here 2 = .ok (.invokevirtual 133, 3) := by decide +kernel
theorem dX5_here_5 : decode cX5_here 5 = .ok (.astore 4, 2) := by decide +kernel
theorem dX5_here_7 : decode cX5_here 7 = .ok (.aload 4, 2) := by decide +kernel
theorem dX5_here_9 : decode cX5_here 9 = .ok (.ifnonnull 5, 3) := by decide +kernel
theorem dX5_here_12 : decode cX5_here 12 = .ok (.iconst 0, 1) := by decide +kernel
theorem dX5_here_13 : decode cX5_here 13 = .ok (.ireturn, 1) := by decide +kernel
theorem dX5_here_14 : decode cX5_here 14 = .ok (.iload_n 2, 1) := by decide +kernel
theorem dX5_here_15 : decode cX5_here 15 = .ok (.tableswitch 59 0 2 #[25, 36, 48], 25) := by decide +kernel
theorem dX5_here_40 : decode cX5_here 40 = .ok (.aload 4, 2) := by decide +kernel
theorem dX5_here_42 : decode cX5_here 42 = .ok (.aload_n 0, 1) := by decide +kernel
theorem dX5_here_43 : decode cX5_here 43 = .ok (.iload_n 3, 1) := by decide +kernel
theorem dX5_here_44 : decode cX5_here 44 = .ok (.invokevirtual 101, 3) := by decide +kernel
theorem dX5_here_47 : decode cX5_here 47 = .ok (.invokestatic 137, 3) := by decide +kernel
theorem dX5_here_50 : decode cX5_here 50 = .ok (.ireturn, 1) := by decide +kernel
theorem dX5_here_51 : decode cX5_here 51 = .ok (.aload_n 0, 1) := by decide +kernel
theorem dX5_here_52 : decode cX5_here 52 = .ok (.aload 4, 2) := by decide +kernel
theorem dX5_here_54 : decode cX5_here 54 = .ok (.aload_n 0, 1) := by decide +kernel
theorem dX5_here_55 : decode cX5_here 55 = .ok (.iload_n 3, 1) := by decide +kernel
theorem dX5_here_56 : decode cX5_here 56 = .ok (.invokevirtual 105, 3) := by decide +kernel
theorem dX5_here_59 : decode cX5_here 59 = .ok (.invokevirtual 156, 3) := by decide +kernel
theorem dX5_here_62 : decode cX5_here 62 = .ok (.ireturn, 1) := by decide +kernel
theorem dX5_here_63 : decode cX5_here 63 = .ok (.aload 4, 2) := by decide +kernel
theorem dX5_here_65 : decode cX5_here 65 = .ok (.aload_n 0, 1) := by decide +kernel
theorem dX5_here_66 : decode cX5_here 66 = .ok (.iload_n 3, 1) := by decide +kernel
theorem dX5_here_67 : decode cX5_here 67 = .ok (.invokevirtual 133, 3) := by decide +kernel
theorem dX5_here_70 : decode cX5_here 70 = .ok (.invokestatic 238, 3) := by decide +kernel
theorem dX5_here_73 : decode cX5_here 73 = .ok (.ireturn, 1) := by decide +kernel
theorem dX5_here_74 : decode cX5_here 74 = .ok (.iconst 0, 1) := by decide +kernel
theorem dX5_here_75 : decode cX5_here 75 = .ok (.ireturn, 1) := by decide +kernel
theorem dX5_count_0 : decode cX5_count 0 = .ok (.iload_n 1, 1) := by decide +kernel
theorem dX5_count_1 : decode cX5_count 1 = .ok (.tableswitch 71 0 5 #[39, 44, 49, 54, 59, 65], 39) := by decide +kernel
theorem dX5_count_40 : decode cX5_count 40 = .ok (.aload_n 0, 1) := by decide +kernel
theorem dX5_count_41 : decode cX5_count 41 = .ok (.getfield 57, 3) := by decide +kernel
theorem dX5_count_44 : decode cX5_count 44 = .ok (.ireturn, 1) := by decide +kernel
theorem dX5_count_45 : decode cX5_count 45 = .ok (.aload_n 0, 1) := by decide +kernel
theorem dX5_count_46 : decode cX5_count 46 = .ok (.getfield 65, 3) := by decide +kernel
theorem dX5_count_49 : decode cX5_count 49 = .ok (.ireturn, 1) := by decide +kernel
theorem dX5_count_50 : decode cX5_count 50 = .ok (.aload_n 0, 1) := by decide +kernel
theorem dX5_count_51 : decode cX5_count 51 = .ok (.getfield 120, 3) := by decide +kernel
theorem dX5_count_54 : decode cX5_count 54 = .ok (.ireturn, 1) := by decide +kernel
theorem dX5_count_55 : decode cX5_count 55 = .ok (.aload_n 0, 1) := by decide +kernel
theorem dX5_count_56 : decode cX5_count 56 = .ok (.getfield 129, 3) := by decide +kernel
theorem dX5_count_59 : decode cX5_count 59 = .ok (.ireturn, 1) := by decide +kernel
theorem dX5_count_60 : decode cX5_count 60 = .ok (.aload_n 0, 1) := by decide +kernel
theorem dX5_count_61 : decode cX5_count 61 = .ok (.iconst 0, 1) := by decide +kernel
theorem dX5_count_62 : decode cX5_count 62 = .ok (.invokevirtual 242, 3) := by decide +kernel
theorem dX5_count_65 : decode cX5_count 65 = .ok (.ireturn, 1) := by decide +kernel
theorem dX5_count_66 : decode cX5_count 66 = .ok (.aload_n 0, 1) := by decide +kernel
theorem dX5_count_67 : decode cX5_count 67 = .ok (.iconst 1, 1) := by decide +kernel
theorem dX5_count_68 : decode cX5_count 68 = .ok (.invokevirtual 242, 3) := by decide +kernel
theorem dX5_count_71 : decode cX5_count 71 = .ok (.ireturn, 1) := by decide +kernel
theorem dX5_count_72 : decode cX5_count 72 = .ok (.iconst (-1), 1) := by decide +kernel
theorem dX5_count_73 : decode cX5_count 73 = .ok (.ireturn, 1) := by decide +kernel
theorem dX5_isRoom_0 : decode cX5_isRoom 0 = .ok (.iload_n 1, 1) := by decide +kernel
theorem dX5_isRoom_1 : decode cX5_isRoom 1 = .ok (.ifCond .lt 15, 3) := by decide +kernel
theorem dX5_isRoom_4 : decode cX5_isRoom 4 = .ok (.iload_n 1, 1) := by decide +kernel
theorem dX5_isRoom_5 : decode cX5_isRoom 5 = .ok (.aload_n 0, 1) := by decide +kernel
theorem dX5_isRoom_6 : decode cX5_isRoom 6 = .ok (.getfield 57, 3) := by decide +kernel
theorem dX5_isRoom_9 : decode cX5_isRoom 9 = .ok (.if_icmp .ge 7, 3) := by decide +kernel
theorem dX5_isRoom_12 : decode cX5_isRoom 12 = .ok (.iconst 1, 1) := by decide +kernel
theorem dX5_isRoom_13 : decode cX5_isRoom 13 = .ok (.goto 4, 3) := by decide +kernel
theorem dX5_isRoom_16 : decode cX5_isRoom 16 = .ok (.iconst 0, 1) := by decide +kernel
theorem dX5_isRoom_17 : decode cX5_isRoom 17 = .ok (.ireturn, 1) := by decide +kernel
theorem dX5_isDirection_0 : decode cX5_isDirection 0 = .ok (.iload_n 0, 1) := by decide +kernel
theorem dX5_isDirection_1 : decode cX5_isDirection 1 = .ok (.ifCond .lt 13, 3) := by decide +kernel
theorem dX5_isDirection_4 : decode cX5_isDirection 4 = .ok (.iload_n 0, 1) := by decide +kernel
theorem dX5_isDirection_5 : decode cX5_isDirection 5 = .ok (.bipush 8, 2) := by decide +kernel
theorem dX5_isDirection_7 : decode cX5_isDirection 7 = .ok (.if_icmp .ge 7, 3) := by decide +kernel
theorem dX5_isDirection_10 : decode cX5_isDirection 10 = .ok (.iconst 1, 1) := by decide +kernel
theorem dX5_isDirection_11 : decode cX5_isDirection 11 = .ok (.goto 4, 3) := by decide +kernel
theorem dX5_isDirection_14 : decode cX5_isDirection 14 = .ok (.iconst 0, 1) := by decide +kernel
theorem dX5_isDirection_15 : decode cX5_isDirection 15 = .ok (.ireturn, 1) := by decide +kernel
theorem dX5_isRegion_0 : decode cX5_isRegion 0 = .ok (.iload_n 0, 1) := by decide +kernel
theorem dX5_isRegion_1 : decode cX5_isRegion 1 = .ok (.ifCond .lt 13, 3) := by decide +kernel
theorem dX5_isRegion_4 : decode cX5_isRegion 4 = .ok (.iload_n 0, 1) := by decide +kernel
theorem dX5_isRegion_5 : decode cX5_isRegion 5 = .ok (.bipush 7, 2) := by decide +kernel
theorem dX5_isRegion_7 : decode cX5_isRegion 7 = .ok (.if_icmp .ge 7, 3) := by decide +kernel
theorem dX5_isRegion_10 : decode cX5_isRegion 10 = .ok (.iconst 1, 1) := by decide +kernel
theorem dX5_isRegion_11 : decode cX5_isRegion 11 = .ok (.goto 4, 3) := by decide +kernel
theorem dX5_isRegion_14 : decode cX5_isRegion 14 = .ok (.iconst 0, 1) := by decide +kernel
theorem dX5_isRegion_15 : decode cX5_isRegion 15 = .ok (.ireturn, 1) := by decide +kernel
theorem dX5_isPlace_0 : decode cX5_isPlace 0 = .ok (.aload_n 0, 1) := by decide +kernel
theorem dX5_isPlace_1 : decode cX5_isPlace 1 = .ok (.iload_n 1, 1) := by decide +kernel
theorem dX5_isPlace_2 : decode cX5_isPlace 2 = .ok (.invokevirtual 61, 3) := by decide +kernel
theorem dX5_isPlace_5 : decode cX5_isPlace 5 = .ok (.ifCond .eq 14, 3) := by decide +kernel
theorem dX5_isPlace_8 : decode cX5_isPlace 8 = .ok (.iload_n 2, 1) := by decide +kernel
theorem dX5_isPlace_9 : decode cX5_isPlace 9 = .ok (.invokestatic 176, 3) := by decide +kernel
theorem dX5_isPlace_12 : decode cX5_isPlace 12 = .ok (.ifCond .eq 7, 3) := by decide +kernel
theorem dX5_isPlace_15 : decode cX5_isPlace 15 = .ok (.iconst 1, 1) := by decide +kernel
theorem dX5_isPlace_16 : decode cX5_isPlace 16 = .ok (.goto 4, 3) := by decide +kernel
theorem dX5_isPlace_19 : decode cX5_isPlace 19 = .ok (.iconst 0, 1) := by decide +kernel
theorem dX5_isPlace_20 : decode cX5_isPlace 20 = .ok (.ireturn, 1) := by decide +kernel
theorem dX5_placeOf_0 : decode cX5_placeOf 0 = .ok (.iload_n 0, 1) := by decide +kernel
theorem dX5_placeOf_1 : decode cX5_placeOf 1 = .ok (.bipush 8, 2) := by decide +kernel
theorem dX5_placeOf_3 : decode cX5_placeOf 3 = .ok (.imul, 1) := by decide +kernel
theorem dX5_placeOf_4 : decode cX5_placeOf 4 = .ok (.iload_n 1, 1) := by decide +kernel
theorem dX5_placeOf_5 : decode cX5_placeOf 5 = .ok (.iadd, 1) := by decide +kernel
theorem dX5_placeOf_6 : decode cX5_placeOf 6 = .ok (.ireturn, 1) := by decide +kernel
theorem dX5_ruleAt_0 : decode cX5_ruleAt 0 = .ok (.iload_n 1, 1) := by decide +kernel
theorem dX5_ruleAt_1 : decode cX5_ruleAt 1 = .ok (.ifCond .lt 17, 3) := by decide +kernel
theorem dX5_ruleAt_4 : decode cX5_ruleAt 4 = .ok (.iload_n 1, 1) := by decide +kernel
theorem dX5_ruleAt_5 : decode cX5_ruleAt 5 = .ok (.iconst 5, 1) := by decide +kernel
theorem dX5_ruleAt_6 : decode cX5_ruleAt 6 = .ok (.if_icmp .ge 12, 3) := by decide +kernel
theorem dX5_ruleAt_9 : decode cX5_ruleAt 9 = .ok (.aload_n 0, 1) := by decide +kernel
theorem dX5_ruleAt_10 : decode cX5_ruleAt 10 = .ok (.getfield 18, 3) := by decide +kernel
theorem dX5_ruleAt_13 : decode cX5_ruleAt 13 = .ok (.iload_n 1, 1) := by decide +kernel
theorem dX5_ruleAt_14 : decode cX5_ruleAt 14 = .ok (.aaload, 1) := by decide +kernel
theorem dX5_ruleAt_15 : decode cX5_ruleAt 15 = .ok (.goto 4, 3) := by decide +kernel
theorem dX5_ruleAt_18 : decode cX5_ruleAt 18 = .ok (.aconst_null, 1) := by decide +kernel
theorem dX5_ruleAt_19 : decode cX5_ruleAt 19 = .ok (.areturn, 1) := by decide +kernel
theorem dX5_doorAt_0 : decode cX5_doorAt 0 = .ok (.iload_n 1, 1) := by decide +kernel
theorem dX5_doorAt_1 : decode cX5_doorAt 1 = .ok (.ifCond .lt 20, 3) := by decide +kernel
theorem dX5_doorAt_4 : decode cX5_doorAt 4 = .ok (.iload_n 1, 1) := by decide +kernel
theorem dX5_doorAt_5 : decode cX5_doorAt 5 = .ok (.aload_n 0, 1) := by decide +kernel
theorem dX5_doorAt_6 : decode cX5_doorAt 6 = .ok (.getfield 65, 3) := by decide +kernel
theorem dX5_doorAt_9 : decode cX5_doorAt 9 = .ok (.if_icmp .ge 12, 3) := by decide +kernel
theorem dX5_doorAt_12 : decode cX5_doorAt 12 = .ok (.aload_n 0, 1) := by decide +kernel
theorem dX5_doorAt_13 : decode cX5_doorAt 13 = .ok (.getfield 27, 3) := by decide +kernel
theorem dX5_doorAt_16 : decode cX5_doorAt 16 = .ok (.iload_n 1, 1) := by decide +kernel
theorem dX5_doorAt_17 : decode cX5_doorAt 17 = .ok (.aaload, 1) := by decide +kernel
theorem dX5_doorAt_18 : decode cX5_doorAt 18 = .ok (.goto 4, 3) := by decide +kernel
theorem dX5_doorAt_21 : decode cX5_doorAt 21 = .ok (.aconst_null, 1) := by decide +kernel
theorem dX5_doorAt_22 : decode cX5_doorAt 22 = .ok (.areturn, 1) := by decide +kernel
theorem dX5_thingAt_0 : decode cX5_thingAt 0 = .ok (.iload_n 1, 1) := by decide +kernel
theorem dX5_thingAt_1 : decode cX5_thingAt 1 = .ok (.ifCond .lt 20, 3) := by decide +kernel
theorem dX5_thingAt_4 : decode cX5_thingAt 4 = .ok (.iload_n 1, 1) := by decide +kernel
theorem dX5_thingAt_5 : decode cX5_thingAt 5 = .ok (.aload_n 0, 1) := by decide +kernel
theorem dX5_thingAt_6 : decode cX5_thingAt 6 = .ok (.getfield 120, 3) := by decide +kernel
theorem dX5_thingAt_9 : decode cX5_thingAt 9 = .ok (.if_icmp .ge 12, 3) := by decide +kernel
theorem dX5_thingAt_12 : decode cX5_thingAt 12 = .ok (.aload_n 0, 1) := by decide +kernel
theorem dX5_thingAt_13 : decode cX5_thingAt 13 = .ok (.getfield 33, 3) := by decide +kernel
theorem dX5_thingAt_16 : decode cX5_thingAt 16 = .ok (.iload_n 1, 1) := by decide +kernel
theorem dX5_thingAt_17 : decode cX5_thingAt 17 = .ok (.aaload, 1) := by decide +kernel
theorem dX5_thingAt_18 : decode cX5_thingAt 18 = .ok (.goto 4, 3) := by decide +kernel
theorem dX5_thingAt_21 : decode cX5_thingAt 21 = .ok (.aconst_null, 1) := by decide +kernel
theorem dX5_thingAt_22 : decode cX5_thingAt 22 = .ok (.areturn, 1) := by decide +kernel
theorem dX5_beingAt_0 : decode cX5_beingAt 0 = .ok (.iload_n 1, 1) := by decide +kernel
theorem dX5_beingAt_1 : decode cX5_beingAt 1 = .ok (.ifCond .lt 20, 3) := by decide +kernel
theorem dX5_beingAt_4 : decode cX5_beingAt 4 = .ok (.iload_n 1, 1) := by decide +kernel
theorem dX5_beingAt_5 : decode cX5_beingAt 5 = .ok (.aload_n 0, 1) := by decide +kernel
theorem dX5_beingAt_6 : decode cX5_beingAt 6 = .ok (.getfield 129, 3) := by decide +kernel
theorem dX5_beingAt_9 : decode cX5_beingAt 9 = .ok (.if_icmp .ge 12, 3) := by decide +kernel
theorem dX5_beingAt_12 : decode cX5_beingAt 12 = .ok (.aload_n 0, 1) := by decide +kernel
theorem dX5_beingAt_13 : decode cX5_beingAt 13 = .ok (.getfield 39, 3) := by decide +kernel
theorem dX5_beingAt_16 : decode cX5_beingAt 16 = .ok (.iload_n 1, 1) := by decide +kernel
theorem dX5_beingAt_17 : decode cX5_beingAt 17 = .ok (.aaload, 1) := by decide +kernel
theorem dX5_beingAt_18 : decode cX5_beingAt 18 = .ok (.goto 4, 3) := by decide +kernel
theorem dX5_beingAt_21 : decode cX5_beingAt 21 = .ok (.aconst_null, 1) := by decide +kernel
theorem dX5_beingAt_22 : decode cX5_beingAt 22 = .ok (.areturn, 1) := by decide +kernel
theorem dX5_orNoSuch_0 : decode cX5_orNoSuch 0 = .ok (.iload_n 0, 1) := by decide +kernel
theorem dX5_orNoSuch_1 : decode cX5_orNoSuch 1 = .ok (.iconst (-1), 1) := by decide +kernel
theorem dX5_orNoSuch_2 : decode cX5_orNoSuch 2 = .ok (.if_icmp .ne 8, 3) := by decide +kernel
theorem dX5_orNoSuch_5 : decode cX5_orNoSuch 5 = .ok (.bipush (-3), 2) := by decide +kernel
theorem dX5_orNoSuch_7 : decode cX5_orNoSuch 7 = .ok (.goto 4, 3) := by decide +kernel
theorem dX5_orNoSuch_10 : decode cX5_orNoSuch 10 = .ok (.iload_n 0, 1) := by decide +kernel
theorem dX5_orNoSuch_11 : decode cX5_orNoSuch 11 = .ok (.ireturn, 1) := by decide +kernel
theorem dX5_mayBeWayOf_0 : decode cX5_mayBeWayOf 0 = .ok (.iload_n 2, 1) := by decide +kernel
theorem dX5_mayBeWayOf_1 : decode cX5_mayBeWayOf 1 = .ok (.bipush 100, 2) := by decide +kernel
theorem dX5_mayBeWayOf_3 : decode cX5_mayBeWayOf 3 = .ok (.if_icmp .ge 22, 3) := by decide +kernel
theorem dX5_mayBeWayOf_6 : decode cX5_mayBeWayOf 6 = .ok (.iload_n 2, 1) := by decide +kernel
theorem dX5_mayBeWayOf_7 : decode cX5_mayBeWayOf 7 = .ok (.iconst (-1), 1) := by decide +kernel
theorem dX5_mayBeWayOf_8 : decode cX5_mayBeWayOf 8 = .ok (.if_icmp .eq 11, 3) := by decide +kernel
theorem dX5_mayBeWayOf_11 : decode cX5_mayBeWayOf 11 = .ok (.aload_n 0, 1) := by decide +kernel
theorem dX5_mayBeWayOf_12 : decode cX5_mayBeWayOf 12 = .ok (.iload_n 2, 1) := by decide +kernel
theorem dX5_mayBeWayOf_13 : decode cX5_mayBeWayOf 13 = .ok (.invokevirtual 61, 3) := by decide +kernel
theorem dX5_mayBeWayOf_16 : decode cX5_mayBeWayOf 16 = .ok (.ifCond .eq 7, 3) := by decide +kernel
theorem dX5_mayBeWayOf_19 : decode cX5_mayBeWayOf 19 = .ok (.iconst 1, 1) := by decide +kernel
theorem dX5_mayBeWayOf_20 : decode cX5_mayBeWayOf 20 = .ok (.goto 4, 3) := by decide +kernel
theorem dX5_mayBeWayOf_23 : decode cX5_mayBeWayOf 23 = .ok (.iconst 0, 1) := by decide +kernel
theorem dX5_mayBeWayOf_24 : decode cX5_mayBeWayOf 24 = .ok (.ireturn, 1) := by decide +kernel
theorem dX5_mayBeWayOf_25 : decode cX5_mayBeWayOf 25 = .ok (.iload_n 2, 1) := by decide +kernel
theorem dX5_mayBeWayOf_26 : decode cX5_mayBeWayOf 26 = .ok (.sipush 200, 3) := by decide +kernel
theorem dX5_mayBeWayOf_29 : decode cX5_mayBeWayOf 29 = .ok (.if_icmp .ge 30, 3) := by decide +kernel
theorem dX5_mayBeWayOf_32 : decode cX5_mayBeWayOf 32 = .ok (.aload_n 0, 1) := by decide +kernel
theorem dX5_mayBeWayOf_33 : decode cX5_mayBeWayOf 33 = .ok (.iload_n 2, 1) := by decide +kernel
theorem dX5_mayBeWayOf_34 : decode cX5_mayBeWayOf 34 = .ok (.bipush 100, 2) := by decide +kernel
theorem dX5_mayBeWayOf_36 : decode cX5_mayBeWayOf 36 = .ok (.isub, 1) := by decide +kernel
theorem dX5_mayBeWayOf_37 : decode cX5_mayBeWayOf 37 = .ok (.invokevirtual 101, 3) := by decide +kernel
theorem dX5_mayBeWayOf_40 : decode cX5_mayBeWayOf 40 = .ok (.astore_n 3, 1) := by decide +kernel
theorem dX5_mayBeWayOf_41 : decode cX5_mayBeWayOf 41 = .ok (.aload_n 3, 1) := by decide +kernel
theorem dX5_mayBeWayOf_42 : decode cX5_mayBeWayOf 42 = .ok (.ifnull 15, 3) := by decide +kernel
theorem dX5_mayBeWayOf_45 : decode cX5_mayBeWayOf 45 = .ok (.aload_n 3, 1) := by decide +kernel
theorem dX5_mayBeWayOf_46 : decode cX5_mayBeWayOf 46 = .ok (.iload_n 1, 1) := by decide +kernel
theorem dX5_mayBeWayOf_47 : decode cX5_mayBeWayOf 47 = .ok (.invokevirtual 246, 3) := by decide +kernel
theorem dX5_mayBeWayOf_50 : decode cX5_mayBeWayOf 50 = .ok (.ifCond .eq 7, 3) := by decide +kernel
theorem dX5_mayBeWayOf_53 : decode cX5_mayBeWayOf 53 = .ok (.iconst 1, 1) := by decide +kernel
theorem dX5_mayBeWayOf_54 : decode cX5_mayBeWayOf 54 = .ok (.goto 4, 3) := by decide +kernel
theorem dX5_mayBeWayOf_57 : decode cX5_mayBeWayOf 57 = .ok (.iconst 0, 1) := by decide +kernel
theorem dX5_mayBeWayOf_58 : decode cX5_mayBeWayOf 58 = .ok (.ireturn, 1) := by decide +kernel
theorem dX5_mayBeWayOf_59 : decode cX5_mayBeWayOf 59 = .ok (.iload_n 2, 1) := by decide +kernel
theorem dX5_mayBeWayOf_60 : decode cX5_mayBeWayOf 60 = .ok (.sipush 300, 3) := by decide +kernel
theorem dX5_mayBeWayOf_63 : decode cX5_mayBeWayOf 63 = .ok (.if_icmp .ge 19, 3) := by decide +kernel
theorem dX5_mayBeWayOf_66 : decode cX5_mayBeWayOf 66 = .ok (.iload_n 2, 1) := by decide +kernel
theorem dX5_mayBeWayOf_67 : decode cX5_mayBeWayOf 67 = .ok (.sipush 200, 3) := by decide +kernel
theorem dX5_mayBeWayOf_70 : decode cX5_mayBeWayOf 70 = .ok (.isub, 1) := by decide +kernel
theorem dX5_mayBeWayOf_71 : decode cX5_mayBeWayOf 71 = .ok (.bipush 50, 2) := by decide +kernel
theorem dX5_mayBeWayOf_73 : decode cX5_mayBeWayOf 73 = .ok (.if_icmp .ge 7, 3) := by decide +kernel
theorem dX5_mayBeWayOf_76 : decode cX5_mayBeWayOf 76 = .ok (.iconst 1, 1) := by decide +kernel
theorem dX5_mayBeWayOf_77 : decode cX5_mayBeWayOf 77 = .ok (.goto 4, 3) := by decide +kernel
theorem dX5_mayBeWayOf_80 : decode cX5_mayBeWayOf 80 = .ok (.iconst 0, 1) := by decide +kernel
theorem dX5_mayBeWayOf_81 : decode cX5_mayBeWayOf 81 = .ok (.ireturn, 1) := by decide +kernel
theorem dX5_mayBeWayOf_82 : decode cX5_mayBeWayOf 82 = .ok (.aload_n 0, 1) := by decide +kernel
theorem dX5_mayBeWayOf_83 : decode cX5_mayBeWayOf 83 = .ok (.iload_n 2, 1) := by decide +kernel
theorem dX5_mayBeWayOf_84 : decode cX5_mayBeWayOf 84 = .ok (.sipush 300, 3) := by decide +kernel
theorem dX5_mayBeWayOf_87 : decode cX5_mayBeWayOf 87 = .ok (.isub, 1) := by decide +kernel
theorem dX5_mayBeWayOf_88 : decode cX5_mayBeWayOf 88 = .ok (.invokevirtual 82, 3) := by decide +kernel
theorem dX5_mayBeWayOf_91 : decode cX5_mayBeWayOf 91 = .ok (.ifnull 7, 3) := by decide +kernel
theorem dX5_mayBeWayOf_94 : decode cX5_mayBeWayOf 94 = .ok (.iconst 1, 1) := by decide +kernel
theorem dX5_mayBeWayOf_95 : decode cX5_mayBeWayOf 95 = .ok (.goto 4, 3) := by decide +kernel
theorem dX5_mayBeWayOf_98 : decode cX5_mayBeWayOf 98 = .ok (.iconst 0, 1) := by decide +kernel
theorem dX5_mayBeWayOf_99 : decode cX5_mayBeWayOf 99 = .ok (.ireturn, 1) := by decide +kernel
theorem dX5_doorOfWay_0 : decode cX5_doorOfWay 0 = .ok (.iload_n 1, 1) := by decide +kernel
theorem dX5_doorOfWay_1 : decode cX5_doorOfWay 1 = .ok (.bipush 100, 2) := by decide +kernel
theorem dX5_doorOfWay_3 : decode cX5_doorOfWay 3 = .ok (.if_icmp .lt 21, 3) := by decide +kernel
theorem dX5_doorOfWay_6 : decode cX5_doorOfWay 6 = .ok (.iload_n 1, 1) := by decide +kernel
theorem dX5_doorOfWay_7 : decode cX5_doorOfWay 7 = .ok (.sipush 200, 3) := by decide +kernel
theorem dX5_doorOfWay_10 : decode cX5_doorOfWay 10 = .ok (.if_icmp .ge 14, 3) := by decide +kernel
theorem dX5_doorOfWay_13 : decode cX5_doorOfWay 13 = .ok (.aload_n 0, 1) := by decide +kernel
theorem dX5_doorOfWay_14 : decode cX5_doorOfWay 14 = .ok (.iload_n 1, 1) := by decide +kernel
theorem dX5_doorOfWay_15 : decode cX5_doorOfWay 15 = .ok (.bipush 100, 2) := by decide +kernel
theorem dX5_doorOfWay_17 : decode cX5_doorOfWay 17 = .ok (.isub, 1) := by decide +kernel
theorem dX5_doorOfWay_18 : decode cX5_doorOfWay 18 = .ok (.invokevirtual 101, 3) := by decide +kernel
theorem dX5_doorOfWay_21 : decode cX5_doorOfWay 21 = .ok (.goto 4, 3) := by decide +kernel
theorem dX5_doorOfWay_24 : decode cX5_doorOfWay 24 = .ok (.aconst_null, 1) := by decide +kernel
theorem dX5_doorOfWay_25 : decode cX5_doorOfWay 25 = .ok (.areturn, 1) := by decide +kernel
theorem dX5_ruleOfWay_0 : decode cX5_ruleOfWay 0 = .ok (.iload_n 1, 1) := by decide +kernel
theorem dX5_ruleOfWay_1 : decode cX5_ruleOfWay 1 = .ok (.sipush 300, 3) := by decide +kernel
theorem dX5_ruleOfWay_4 : decode cX5_ruleOfWay 4 = .ok (.if_icmp .lt 15, 3) := by decide +kernel
theorem dX5_ruleOfWay_7 : decode cX5_ruleOfWay 7 = .ok (.aload_n 0, 1) := by decide +kernel
theorem dX5_ruleOfWay_8 : decode cX5_ruleOfWay 8 = .ok (.iload_n 1, 1) := by decide +kernel
theorem dX5_ruleOfWay_9 : decode cX5_ruleOfWay 9 = .ok (.sipush 300, 3) := by decide +kernel
theorem dX5_ruleOfWay_12 : decode cX5_ruleOfWay 12 = .ok (.isub, 1) := by decide +kernel
theorem dX5_ruleOfWay_13 : decode cX5_ruleOfWay 13 = .ok (.invokevirtual 82, 3) := by decide +kernel
theorem dX5_ruleOfWay_16 : decode cX5_ruleOfWay 16 = .ok (.goto 4, 3) := by decide +kernel
theorem dX5_ruleOfWay_19 : decode cX5_ruleOfWay 19 = .ok (.aconst_null, 1) := by decide +kernel
theorem dX5_ruleOfWay_20 : decode cX5_ruleOfWay 20 = .ok (.areturn, 1) := by decide +kernel
theorem dX5_leadsTo_0 : decode cX5_leadsTo 0 = .ok (.aload_n 0, 1) := by decide +kernel
theorem dX5_leadsTo_1 : decode cX5_leadsTo 1 = .ok (.iload_n 1, 1) := by decide +kernel
theorem dX5_leadsTo_2 : decode cX5_leadsTo 2 = .ok (.iload_n 2, 1) := by decide +kernel
theorem dX5_leadsTo_3 : decode cX5_leadsTo 3 = .ok (.invokevirtual 71, 3) := by decide +kernel
theorem dX5_leadsTo_6 : decode cX5_leadsTo 6 = .ok (.ifCond .ne 5, 3) := by decide +kernel
theorem dX5_leadsTo_9 : decode cX5_leadsTo 9 = .ok (.iconst (-1), 1) := by decide +kernel
theorem dX5_leadsTo_10 : decode cX5_leadsTo 10 = .ok (.ireturn, 1) := by decide +kernel
theorem dX5_leadsTo_11 : decode cX5_leadsTo 11 = .ok (.aload_n 0, 1) := by decide +kernel
theorem dX5_leadsTo_12 : decode cX5_leadsTo 12 = .ok (.getfield 9, 3) := by decide +kernel
theorem dX5_leadsTo_15 : decode cX5_leadsTo 15 = .ok (.iload_n 1, 1) := by decide +kernel
theorem dX5_leadsTo_16 : decode cX5_leadsTo 16 = .ok (.iload_n 2, 1) := by decide +kernel
theorem dX5_leadsTo_17 : decode cX5_leadsTo 17 = .ok (.invokestatic 78, 3) := by decide +kernel
theorem dX5_leadsTo_20 : decode cX5_leadsTo 20 = .ok (.iaload, 1) := by decide +kernel
theorem dX5_leadsTo_21 : decode cX5_leadsTo 21 = .ok (.istore_n 3, 1) := by decide +kernel
theorem dX5_leadsTo_22 : decode cX5_leadsTo 22 = .ok (.iload_n 3, 1) := by decide +kernel
theorem dX5_leadsTo_23 : decode cX5_leadsTo 23 = .ok (.bipush 100, 2) := by decide +kernel
theorem dX5_leadsTo_25 : decode cX5_leadsTo 25 = .ok (.if_icmp .ge 5, 3) := by decide +kernel
theorem dX5_leadsTo_28 : decode cX5_leadsTo 28 = .ok (.iload_n 3, 1) := by decide +kernel
theorem dX5_leadsTo_29 : decode cX5_leadsTo 29 = .ok (.ireturn, 1) := by decide +kernel
theorem dX5_leadsTo_30 : decode cX5_leadsTo 30 = .ok (.aload_n 0, 1) := by decide +kernel
theorem dX5_leadsTo_31 : decode cX5_leadsTo 31 = .ok (.iload_n 3, 1) := by decide +kernel
theorem dX5_leadsTo_32 : decode cX5_leadsTo 32 = .ok (.invokevirtual 249, 3) := by decide +kernel
theorem dX5_leadsTo_35 : decode cX5_leadsTo 35 = .ok (.astore 4, 2) := by decide +kernel
theorem dX5_leadsTo_37 : decode cX5_leadsTo 37 = .ok (.aload 4, 2) := by decide +kernel
theorem dX5_leadsTo_39 : decode cX5_leadsTo 39 = .ok (.ifnull 22, 3) := by decide +kernel
theorem dX5_leadsTo_42 : decode cX5_leadsTo 42 = .ok (.aload 4, 2) := by decide +kernel
theorem dX5_leadsTo_44 : decode cX5_leadsTo 44 = .ok (.getfield 207, 3) := by decide +kernel
theorem dX5_leadsTo_47 : decode cX5_leadsTo 47 = .ok (.ifCond .eq 12, 3) := by decide +kernel
theorem dX5_leadsTo_50 : decode cX5_leadsTo 50 = .ok (.aload 4, 2) := by decide +kernel
theorem dX5_leadsTo_52 : decode cX5_leadsTo 52 = .ok (.iload_n 1, 1) := by decide +kernel
theorem dX5_leadsTo_53 : decode cX5_leadsTo 53 = .ok (.invokevirtual 252, 3) := by decide +kernel
theorem dX5_leadsTo_56 : decode cX5_leadsTo 56 = .ok (.goto 4, 3) := by decide +kernel
theorem dX5_leadsTo_59 : decode cX5_leadsTo 59 = .ok (.iconst (-1), 1) := by decide +kernel
theorem dX5_leadsTo_60 : decode cX5_leadsTo 60 = .ok (.ireturn, 1) := by decide +kernel
theorem dX5_leadsTo_61 : decode cX5_leadsTo 61 = .ok (.aload_n 0, 1) := by decide +kernel
theorem dX5_leadsTo_62 : decode cX5_leadsTo 62 = .ok (.iload_n 3, 1) := by decide +kernel
theorem dX5_leadsTo_63 : decode cX5_leadsTo 63 = .ok (.invokevirtual 255, 3) := by decide +kernel
theorem dX5_leadsTo_66 : decode cX5_leadsTo 66 = .ok (.astore 5, 2) := by decide +kernel
theorem dX5_leadsTo_68 : decode cX5_leadsTo 68 = .ok (.aload 5, 2) := by decide +kernel
theorem dX5_leadsTo_70 : decode cX5_leadsTo 70 = .ok (.ifnonnull 7, 3) := by decide +kernel
theorem dX5_leadsTo_73 : decode cX5_leadsTo 73 = .ok (.iconst (-1), 1) := by decide +kernel
theorem dX5_leadsTo_74 : decode cX5_leadsTo 74 = .ok (.goto 8, 3) := by decide +kernel
theorem dX5_leadsTo_77 : decode cX5_leadsTo 77 = .ok (.aload 5, 2) := by decide +kernel
theorem dX5_leadsTo_79 : decode cX5_leadsTo 79 = .ok (.invokevirtual 258, 3) := by decide +kernel
theorem dX5_leadsTo_82 : decode cX5_leadsTo 82 = .ok (.ireturn, 1) := by decide +kernel
theorem dX5_countWays_0 : decode cX5_countWays 0 = .ok (.iconst 0, 1) := by decide +kernel
theorem dX5_countWays_1 : decode cX5_countWays 1 = .ok (.istore_n 2, 1) := by decide +kernel
theorem dX5_countWays_2 : decode cX5_countWays 2 = .ok (.iconst 0, 1) := by decide +kernel
theorem dX5_countWays_3 : decode cX5_countWays 3 = .ok (.istore_n 3, 1) := by decide +kernel
theorem dX5_countWays_4 : decode cX5_countWays 4 = .ok (.iload_n 3, 1) := by decide +kernel
theorem dX5_countWays_5 : decode cX5_countWays 5 = .ok (.aload_n 0, 1) := by decide +kernel
theorem dX5_countWays_6 : decode cX5_countWays 6 = .ok (.getfield 57, 3) := by decide +kernel
theorem dX5_countWays_9 : decode cX5_countWays 9 = .ok (.if_icmp .ge 66, 3) := by decide +kernel
theorem dX5_countWays_12 : decode cX5_countWays 12 = .ok (.iconst 0, 1) := by decide +kernel
theorem dX5_countWays_13 : decode cX5_countWays 13 = .ok (.istore 4, 2) := by decide +kernel
theorem dX5_countWays_15 : decode cX5_countWays 15 = .ok (.iload 4, 2) := by decide +kernel
theorem dX5_countWays_17 : decode cX5_countWays 17 = .ok (.bipush 8, 2) := by decide +kernel
theorem dX5_countWays_19 : decode cX5_countWays 19 = .ok (.if_icmp .ge 50, 3) := by decide +kernel
theorem dX5_countWays_22 : decode cX5_countWays 22 = .ok (.iload_n 1, 1) := by decide +kernel
theorem dX5_countWays_23 : decode cX5_countWays 23 = .ok (.ifCond .eq 13, 3) := by decide +kernel
theorem dX5_countWays_26 : decode cX5_countWays 26 = .ok (.aload_n 0, 1) := by decide +kernel
theorem dX5_countWays_27 : decode cX5_countWays 27 = .ok (.iload_n 3, 1) := by decide +kernel
theorem dX5_countWays_28 : decode cX5_countWays 28 = .ok (.iload 4, 2) := by decide +kernel
theorem dX5_countWays_30 : decode cX5_countWays 30 = .ok (.invokevirtual 204, 3) := by decide +kernel
theorem dX5_countWays_33 : decode cX5_countWays 33 = .ok (.goto 14, 3) := by decide +kernel
theorem dX5_countWays_36 : decode cX5_countWays 36 = .ok (.aload_n 0, 1) := by decide +kernel
theorem dX5_countWays_37 : decode cX5_countWays 37 = .ok (.getfield 9, 3) := by decide +kernel
theorem dX5_countWays_40 : decode cX5_countWays 40 = .ok (.iload_n 3, 1) := by decide +kernel
theorem dX5_countWays_41 : decode cX5_countWays 41 = .ok (.iload 4, 2) := by decide +kernel
theorem dX5_countWays_43 : decode cX5_countWays 43 = .ok (.invokestatic 78, 3) := by decide +kernel
theorem dX5_countWays_46 : decode cX5_countWays 46 = .ok (.iaload, 1) := by decide +kernel
theorem dX5_countWays_47 : decode cX5_countWays 47 = .ok (.istore 5, 2) := by decide +kernel
theorem dX5_countWays_49 : decode cX5_countWays 49 = .ok (.iload_n 2, 1) := by decide +kernel
theorem dX5_countWays_50 : decode cX5_countWays 50 = .ok (.iload 5, 2) := by decide +kernel
theorem dX5_countWays_52 : decode cX5_countWays 52 = .ok (.iconst (-1), 1) := by decide +kernel
theorem dX5_countWays_53 : decode cX5_countWays 53 = .ok (.if_icmp .ne 7, 3) := by decide +kernel
theorem dX5_countWays_56 : decode cX5_countWays 56 = .ok (.iconst 0, 1) := by decide +kernel
theorem dX5_countWays_57 : decode cX5_countWays 57 = .ok (.goto 4, 3) := by decide +kernel
theorem dX5_countWays_60 : decode cX5_countWays 60 = .ok (.iconst 1, 1) := by decide +kernel
theorem dX5_countWays_61 : decode cX5_countWays 61 = .ok (.iadd, 1) := by decide +kernel
theorem dX5_countWays_62 : decode cX5_countWays 62 = .ok (.istore_n 2, 1) := by decide +kernel
theorem dX5_countWays_63 : decode cX5_countWays 63 = .ok (.iinc 4 1, 3) := by decide +kernel
theorem dX5_countWays_66 : decode cX5_countWays 66 = .ok (.goto (-51), 3) := by decide +kernel
theorem dX5_countWays_69 : decode cX5_countWays 69 = .ok (.iinc 3 1, 3) := by decide +kernel
theorem dX5_countWays_72 : decode cX5_countWays 72 = .ok (.goto (-68), 3) := by decide +kernel
theorem dX5_countWays_75 : decode cX5_countWays 75 = .ok (.iload_n 2, 1) := by decide +kernel
theorem dX5_countWays_76 : decode cX5_countWays 76 = .ok (.ireturn, 1) := by decide +kernel
theorem dX5_searchFrom_0 : decode cX5_searchFrom 0 = .ok (.aload_n 0, 1) := by decide +kernel
theorem dX5_searchFrom_1 : decode cX5_searchFrom 1 = .ok (.getfield 46, 3) := by decide +kernel
theorem dX5_searchFrom_4 : decode cX5_searchFrom 4 = .ok (.iload_n 1, 1) := by decide +kernel
theorem dX5_searchFrom_5 : decode cX5_searchFrom 5 = .ok (.invokevirtual 262, 3) := by decide +kernel
theorem dX5_searchFrom_8 : decode cX5_searchFrom 8 = .ok (.iconst 0, 1) := by decide +kernel
theorem dX5_searchFrom_9 : decode cX5_searchFrom 9 = .ok (.istore_n 2, 1) := by decide +kernel
theorem dX5_searchFrom_10 : decode cX5_searchFrom 10 = .ok (.iload_n 2, 1) := by decide +kernel
theorem dX5_searchFrom_11 : decode cX5_searchFrom 11 = .ok (.bipush 20, 2) := by decide +kernel
theorem dX5_searchFrom_13 : decode cX5_searchFrom 13 = .ok (.if_icmp .ge 63, 3) := by decide +kernel
theorem dX5_searchFrom_16 : decode cX5_searchFrom 16 = .ok (.iload_n 2, 1) := by decide +kernel
theorem dX5_searchFrom_17 : decode cX5_searchFrom 17 = .ok (.aload_n 0, 1) := by decide +kernel
theorem dX5_searchFrom_18 : decode cX5_searchFrom 18 = .ok (.getfield 46, 3) := by decide +kernel
theorem dX5_searchFrom_21 : decode cX5_searchFrom 21 = .ok (.getfield 265, 3) := by decide +kernel
theorem dX5_searchFrom_24 : decode cX5_searchFrom 24 = .ok (.if_icmp .ge 52, 3) := by decide +kernel
theorem dX5_searchFrom_27 : decode cX5_searchFrom 27 = .ok (.aload_n 0, 1) := by decide +kernel
theorem dX5_searchFrom_28 : decode cX5_searchFrom 28 = .ok (.getfield 46, 3) := by decide +kernel
theorem dX5_searchFrom_31 : decode cX5_searchFrom 31 = .ok (.getfield 268, 3) := by decide +kernel
theorem dX5_searchFrom_34 : decode cX5_searchFrom 34 = .ok (.iload_n 2, 1) := by decide +kernel
theorem dX5_searchFrom_35 : decode cX5_searchFrom 35 = .ok (.iaload, 1) := by decide +kernel
theorem dX5_searchFrom_36 : decode cX5_searchFrom 36 = .ok (.istore_n 3, 1) := by decide +kernel
theorem dX5_searchFrom_37 : decode cX5_searchFrom 37 = .ok (.iconst 0, 1) := by decide +kernel
theorem dX5_searchFrom_38 : decode cX5_searchFrom 38 = .ok (.istore 4, 2) := by decide +kernel
theorem dX5_searchFrom_40 : decode cX5_searchFrom 40 = .ok (.iload 4, 2) := by decide +kernel
theorem dX5_searchFrom_42 : decode cX5_searchFrom 42 = .ok (.bipush 8, 2) := by decide +kernel
theorem dX5_searchFrom_44 : decode cX5_searchFrom 44 = .ok (.if_icmp .ge 26, 3) := by decide +kernel
theorem dX5_searchFrom_47 : decode cX5_searchFrom 47 = .ok (.aload_n 0, 1) := by decide +kernel
theorem dX5_searchFrom_48 : decode cX5_searchFrom 48 = .ok (.getfield 46, 3) := by decide +kernel
theorem dX5_searchFrom_51 : decode cX5_searchFrom 51 = .ok (.aload_n 0, 1) := by decide +kernel
theorem dX5_searchFrom_52 : decode cX5_searchFrom 52 = .ok (.iload_n 3, 1) := by decide +kernel
theorem dX5_searchFrom_53 : decode cX5_searchFrom 53 = .ok (.iload 4, 2) := by decide +kernel
theorem dX5_searchFrom_55 : decode cX5_searchFrom 55 = .ok (.invokevirtual 204, 3) := by decide +kernel
theorem dX5_searchFrom_58 : decode cX5_searchFrom 58 = .ok (.iload_n 3, 1) := by decide +kernel
theorem dX5_searchFrom_59 : decode cX5_searchFrom 59 = .ok (.iload 4, 2) := by decide +kernel
theorem dX5_searchFrom_61 : decode cX5_searchFrom 61 = .ok (.invokevirtual 271, 3) := by decide +kernel
theorem dX5_searchFrom_64 : decode cX5_searchFrom 64 = .ok (.iinc 4 1, 3) := by decide +kernel
theorem dX5_searchFrom_67 : decode cX5_searchFrom 67 = .ok (.goto (-27), 3) := by decide +kernel
theorem dX5_searchFrom_70 : decode cX5_searchFrom 70 = .ok (.iinc 2 1, 3) := by decide +kernel
theorem dX5_searchFrom_73 : decode cX5_searchFrom 73 = .ok (.goto (-63), 3) := by decide +kernel
theorem dX5_searchFrom_76 : decode cX5_searchFrom 76 = .ok (.return_, 1) := by decide +kernel
theorem dX5_isShutIn_0 : decode cX5_isShutIn 0 = .ok (.aload_n 0, 1) := by decide +kernel
theorem dX5_isShutIn_1 : decode cX5_isShutIn 1 = .ok (.getfield 170, 3) := by decide +kernel
theorem dX5_isShutIn_4 : decode cX5_isShutIn 4 = .ok (.ifnull 17, 3) := by decide +kernel
theorem dX5_isShutIn_7 : decode cX5_isShutIn 7 = .ok (.aload_n 0, 1) := by decide +kernel
theorem dX5_isShutIn_8 : decode cX5_isShutIn 8 = .ok (.getfield 170, 3) := by decide +kernel
theorem dX5_isShutIn_11 : decode cX5_isShutIn 11 = .ok (.getfield 173, 3) := by decide +kernel
theorem dX5_isShutIn_14 : decode cX5_isShutIn 14 = .ok (.ifCond .eq 7, 3) := by decide +kernel
theorem dX5_isShutIn_17 : decode cX5_isShutIn 17 = .ok (.iconst 1, 1) := by decide +kernel
theorem dX5_isShutIn_18 : decode cX5_isShutIn 18 = .ok (.goto 4, 3) := by decide +kernel
theorem dX5_isShutIn_21 : decode cX5_isShutIn 21 = .ok (.iconst 0, 1) := by decide +kernel
theorem dX5_isShutIn_22 : decode cX5_isShutIn 22 = .ok (.ireturn, 1) := by decide +kernel
theorem dX5_isDoorHere_0 : decode cX5_isDoorHere 0 = .ok (.aload_n 1, 1) := by decide +kernel
theorem dX5_isDoorHere_1 : decode cX5_isDoorHere 1 = .ok (.ifnull 25, 3) := by decide +kernel
theorem dX5_isDoorHere_4 : decode cX5_isDoorHere 4 = .ok (.aload_n 1, 1) := by decide +kernel
theorem dX5_isDoorHere_5 : decode cX5_isDoorHere 5 = .ok (.aload_n 0, 1) := by decide +kernel
theorem dX5_isDoorHere_6 : decode cX5_isDoorHere 6 = .ok (.getfield 191, 3) := by decide +kernel
theorem dX5_isDoorHere_9 : decode cX5_isDoorHere 9 = .ok (.invokevirtual 246, 3) := by decide +kernel
theorem dX5_isDoorHere_12 : decode cX5_isDoorHere 12 = .ok (.ifCond .eq 14, 3) := by decide +kernel
theorem dX5_isDoorHere_15 : decode cX5_isDoorHere 15 = .ok (.aload_n 0, 1) := by decide +kernel
theorem dX5_isDoorHere_16 : decode cX5_isDoorHere 16 = .ok (.invokestatic 275, 3) := by decide +kernel
theorem dX5_isDoorHere_19 : decode cX5_isDoorHere 19 = .ok (.ifCond .ne 7, 3) := by decide +kernel
theorem dX5_isDoorHere_22 : decode cX5_isDoorHere 22 = .ok (.iconst 1, 1) := by decide +kernel
theorem dX5_isDoorHere_23 : decode cX5_isDoorHere 23 = .ok (.goto 4, 3) := by decide +kernel
theorem dX5_isDoorHere_26 : decode cX5_isDoorHere 26 = .ok (.iconst 0, 1) := by decide +kernel
theorem dX5_isDoorHere_27 : decode cX5_isDoorHere 27 = .ok (.ireturn, 1) := by decide +kernel
theorem dX5_isThingHere_0 : decode cX5_isThingHere 0 = .ok (.aload_n 2, 1) := by decide +kernel
theorem dX5_isThingHere_1 : decode cX5_isThingHere 1 = .ok (.ifnonnull 5, 3) := by decide +kernel
theorem dX5_isThingHere_4 : decode cX5_isThingHere 4 = .ok (.iconst 0, 1) := by decide +kernel
theorem dX5_isThingHere_5 : decode cX5_isThingHere 5 = .ok (.ireturn, 1) := by decide +kernel
theorem dX5_isThingHere_6 : decode cX5_isThingHere 6 = .ok (.aload_n 2, 1) := by decide +kernel
theorem dX5_isThingHere_7 : decode cX5_isThingHere 7 = .ok (.getfield 279, 3) := by decide +kernel
theorem dX5_isThingHere_10 : decode cX5_isThingHere 10 = .ok (.ifnull 17, 3) := by decide +kernel
theorem dX5_isThingHere_13 : decode cX5_isThingHere 13 = .ok (.aload_n 2, 1) := by decide +kernel
theorem dX5_isThingHere_14 : decode cX5_isThingHere 14 = .ok (.getfield 279, 3) := by decide +kernel
theorem dX5_isThingHere_17 : decode cX5_isThingHere 17 = .ok (.aload_n 1, 1) := by decide +kernel
theorem dX5_isThingHere_18 : decode cX5_isThingHere 18 = .ok (.if_acmp .ne 7, 3) := by decide +kernel
theorem dX5_isThingHere_21 : decode cX5_isThingHere 21 = .ok (.iconst 1, 1) := by decide +kernel
theorem dX5_isThingHere_22 : decode cX5_isThingHere 22 = .ok (.goto 4, 3) := by decide +kernel
theorem dX5_isThingHere_25 : decode cX5_isThingHere 25 = .ok (.iconst 0, 1) := by decide +kernel
theorem dX5_isThingHere_26 : decode cX5_isThingHere 26 = .ok (.ireturn, 1) := by decide +kernel
theorem dX5_isThingHere_27 : decode cX5_isThingHere 27 = .ok (.aload_n 1, 1) := by decide +kernel
theorem dX5_isThingHere_28 : decode cX5_isThingHere 28 = .ok (.invokestatic 275, 3) := by decide +kernel
theorem dX5_isThingHere_31 : decode cX5_isThingHere 31 = .ok (.ifCond .eq 19, 3) := by decide +kernel
theorem dX5_isThingHere_34 : decode cX5_isThingHere 34 = .ok (.aload_n 2, 1) := by decide +kernel
theorem dX5_isThingHere_35 : decode cX5_isThingHere 35 = .ok (.aload_n 1, 1) := by decide +kernel
theorem dX5_isThingHere_36 : decode cX5_isThingHere 36 = .ok (.getfield 170, 3) := by decide +kernel
theorem dX5_isThingHere_39 : decode cX5_isThingHere 39 = .ok (.if_acmp .ne 7, 3) := by decide +kernel
theorem dX5_isThingHere_42 : decode cX5_isThingHere 42 = .ok (.iconst 1, 1) := by decide +kernel
theorem dX5_isThingHere_43 : decode cX5_isThingHere 43 = .ok (.goto 16, 3) := by decide +kernel
theorem dX5_isThingHere_46 : decode cX5_isThingHere 46 = .ok (.iconst 0, 1) := by decide +kernel
theorem dX5_isThingHere_47 : decode cX5_isThingHere 47 = .ok (.goto 12, 3) := by decide +kernel
theorem dX5_isThingHere_50 : decode cX5_isThingHere 50 = .ok (.aload_n 0, 1) := by decide +kernel
theorem dX5_isThingHere_51 : decode cX5_isThingHere 51 = .ok (.aload_n 2, 1) := by decide +kernel
theorem dX5_isThingHere_52 : decode cX5_isThingHere 52 = .ok (.aload_n 1, 1) := by decide +kernel
theorem dX5_isThingHere_53 : decode cX5_isThingHere 53 = .ok (.getfield 191, 3) := by decide +kernel
theorem dX5_isThingHere_56 : decode cX5_isThingHere 56 = .ok (.invokevirtual 283, 3) := by decide +kernel
theorem dX5_isThingHere_59 : decode cX5_isThingHere 59 = .ok (.ireturn, 1) := by decide +kernel
theorem dX5_isInRoom_0 : decode cX5_isInRoom 0 = .ok (.aload_n 1, 1) := by decide +kernel
theorem dX5_isInRoom_1 : decode cX5_isInRoom 1 = .ok (.getfield 126, 3) := by decide +kernel
theorem dX5_isInRoom_4 : decode cX5_isInRoom 4 = .ok (.iconst (-1), 1) := by decide +kernel
theorem dX5_isInRoom_5 : decode cX5_isInRoom 5 = .ok (.if_icmp .ne 19, 3) := by decide +kernel
theorem dX5_isInRoom_8 : decode cX5_isInRoom 8 = .ok (.aload_n 1, 1) := by decide +kernel
theorem dX5_isInRoom_9 : decode cX5_isInRoom 9 = .ok (.getfield 287, 3) := by decide +kernel
theorem dX5_isInRoom_12 : decode cX5_isInRoom 12 = .ok (.iload_n 2, 1) := by decide +kernel
theorem dX5_isInRoom_13 : decode cX5_isInRoom 13 = .ok (.if_icmp .ne 7, 3) := by decide +kernel
theorem dX5_isInRoom_16 : decode cX5_isInRoom 16 = .ok (.iconst 1, 1) := by decide +kernel
theorem dX5_isInRoom_17 : decode cX5_isInRoom 17 = .ok (.goto 16, 3) := by decide +kernel
theorem dX5_isInRoom_20 : decode cX5_isInRoom 20 = .ok (.iconst 0, 1) := by decide +kernel
theorem dX5_isInRoom_21 : decode cX5_isInRoom 21 = .ok (.goto 12, 3) := by decide +kernel
theorem dX5_isInRoom_24 : decode cX5_isInRoom 24 = .ok (.aload_n 0, 1) := by decide +kernel
theorem dX5_isInRoom_25 : decode cX5_isInRoom 25 = .ok (.aload_n 1, 1) := by decide +kernel
theorem dX5_isInRoom_26 : decode cX5_isInRoom 26 = .ok (.getfield 126, 3) := by decide +kernel
theorem dX5_isInRoom_29 : decode cX5_isInRoom 29 = .ok (.iload_n 2, 1) := by decide +kernel
theorem dX5_isInRoom_30 : decode cX5_isInRoom 30 = .ok (.invokevirtual 288, 3) := by decide +kernel
theorem dX5_isInRoom_33 : decode cX5_isInRoom 33 = .ok (.ireturn, 1) := by decide +kernel
theorem dX5_isBeingHere_0 : decode cX5_isBeingHere 0 = .ok (.aload_n 1, 1) := by decide +kernel
theorem dX5_isBeingHere_1 : decode cX5_isBeingHere 1 = .ok (.ifnonnull 5, 3) := by decide +kernel
theorem dX5_isBeingHere_4 : decode cX5_isBeingHere 4 = .ok (.iconst 0, 1) := by decide +kernel
theorem dX5_isBeingHere_5 : decode cX5_isBeingHere 5 = .ok (.ireturn, 1) := by decide +kernel
theorem dX5_isBeingHere_6 : decode cX5_isBeingHere 6 = .ok (.aload_n 0, 1) := by decide +kernel
theorem dX5_isBeingHere_7 : decode cX5_isBeingHere 7 = .ok (.invokestatic 275, 3) := by decide +kernel
theorem dX5_isBeingHere_10 : decode cX5_isBeingHere 10 = .ok (.ifCond .eq 22, 3) := by decide +kernel
theorem dX5_isBeingHere_13 : decode cX5_isBeingHere 13 = .ok (.aload_n 1, 1) := by decide +kernel
theorem dX5_isBeingHere_14 : decode cX5_isBeingHere 14 = .ok (.getfield 170, 3) := by decide +kernel
theorem dX5_isBeingHere_17 : decode cX5_isBeingHere 17 = .ok (.aload_n 0, 1) := by decide +kernel
theorem dX5_isBeingHere_18 : decode cX5_isBeingHere 18 = .ok (.getfield 170, 3) := by decide +kernel
theorem dX5_isBeingHere_21 : decode cX5_isBeingHere 21 = .ok (.if_acmp .ne 7, 3) := by decide +kernel
theorem dX5_isBeingHere_24 : decode cX5_isBeingHere 24 = .ok (.iconst 1, 1) := by decide +kernel
theorem dX5_isBeingHere_25 : decode cX5_isBeingHere 25 = .ok (.goto 23, 3) := by decide +kernel
theorem dX5_isBeingHere_28 : decode cX5_isBeingHere 28 = .ok (.iconst 0, 1) := by decide +kernel
theorem dX5_isBeingHere_29 : decode cX5_isBeingHere 29 = .ok (.goto 19, 3) := by decide +kernel
theorem dX5_isBeingHere_32 : decode cX5_isBeingHere 32 = .ok (.aload_n 1, 1) := by decide +kernel
theorem dX5_isBeingHere_33 : decode cX5_isBeingHere 33 = .ok (.getfield 191, 3) := by decide +kernel
theorem dX5_isBeingHere_36 : decode cX5_isBeingHere 36 = .ok (.aload_n 0, 1) := by decide +kernel
theorem dX5_isBeingHere_37 : decode cX5_isBeingHere 37 = .ok (.getfield 191, 3) := by decide +kernel
theorem dX5_isBeingHere_40 : decode cX5_isBeingHere 40 = .ok (.if_icmp .ne 7, 3) := by decide +kernel
theorem dX5_isBeingHere_43 : decode cX5_isBeingHere 43 = .ok (.iconst 1, 1) := by decide +kernel
theorem dX5_isBeingHere_44 : decode cX5_isBeingHere 44 = .ok (.goto 4, 3) := by decide +kernel
theorem dX5_isBeingHere_47 : decode cX5_isBeingHere 47 = .ok (.iconst 0, 1) := by decide +kernel
theorem dX5_isBeingHere_48 : decode cX5_isBeingHere 48 = .ok (.ireturn, 1) := by decide +kernel
theorem dX5_hasRoom_0 : decode cX5_hasRoom 0 = .ok (.iload_n 1, 1) := by decide +kernel
theorem dX5_hasRoom_1 : decode cX5_hasRoom 1 = .ok (.invokestatic 92, 3) := by decide +kernel
theorem dX5_hasRoom_4 : decode cX5_hasRoom 4 = .ok (.ifCond .eq 28, 3) := by decide +kernel
theorem dX5_hasRoom_7 : decode cX5_hasRoom 7 = .ok (.aload_n 0, 1) := by decide +kernel
theorem dX5_hasRoom_8 : decode cX5_hasRoom 8 = .ok (.iload_n 2, 1) := by decide +kernel
theorem dX5_hasRoom_9 : decode cX5_hasRoom 9 = .ok (.invokevirtual 61, 3) := by decide +kernel
theorem dX5_hasRoom_12 : decode cX5_hasRoom 12 = .ok (.ifCond .eq 20, 3) := by decide +kernel
theorem dX5_hasRoom_15 : decode cX5_hasRoom 15 = .ok (.aload_n 0, 1) := by decide +kernel
theorem dX5_hasRoom_16 : decode cX5_hasRoom 16 = .ok (.getfield 22, 3) := by decide +kernel
theorem dX5_hasRoom_19 : decode cX5_hasRoom 19 = .ok (.iload_n 1, 1) := by decide +kernel
theorem dX5_hasRoom_20 : decode cX5_hasRoom 20 = .ok (.iaload, 1) := by decide +kernel
theorem dX5_hasRoom_21 : decode cX5_hasRoom 21 = .ok (.iconst 1, 1) := by decide +kernel
theorem dX5_hasRoom_22 : decode cX5_hasRoom 22 = .ok (.iload_n 2, 1) := by decide +kernel
theorem dX5_hasRoom_23 : decode cX5_hasRoom 23 = .ok (.ishl, 1) := by decide +kernel
theorem dX5_hasRoom_24 : decode cX5_hasRoom 24 = .ok (.iand, 1) := by decide +kernel
theorem dX5_hasRoom_25 : decode cX5_hasRoom 25 = .ok (.ifCond .eq 7, 3) := by decide +kernel
theorem dX5_hasRoom_28 : decode cX5_hasRoom 28 = .ok (.iconst 1, 1) := by decide +kernel
theorem dX5_hasRoom_29 : decode cX5_hasRoom 29 = .ok (.goto 4, 3) := by decide +kernel
theorem dX5_hasRoom_32 : decode cX5_hasRoom 32 = .ok (.iconst 0, 1) := by decide +kernel
theorem dX5_hasRoom_33 : decode cX5_hasRoom 33 = .ok (.ireturn, 1) := by decide +kernel
theorem dX5_leastRoomOf_0 : decode cX5_leastRoomOf 0 = .ok (.iconst 0, 1) := by decide +kernel
theorem dX5_leastRoomOf_1 : decode cX5_leastRoomOf 1 = .ok (.istore_n 2, 1) := by decide +kernel
theorem dX5_leastRoomOf_2 : decode cX5_leastRoomOf 2 = .ok (.iload_n 2, 1) := by decide +kernel
theorem dX5_leastRoomOf_3 : decode cX5_leastRoomOf 3 = .ok (.aload_n 0, 1) := by decide +kernel
theorem dX5_leastRoomOf_4 : decode cX5_leastRoomOf 4 = .ok (.getfield 57, 3) := by decide +kernel
theorem dX5_leastRoomOf_7 : decode cX5_leastRoomOf 7 = .ok (.if_icmp .ge 20, 3) := by decide +kernel
theorem dX5_leastRoomOf_10 : decode cX5_leastRoomOf 10 = .ok (.aload_n 0, 1) := by decide +kernel
theorem dX5_leastRoomOf_11 : decode cX5_leastRoomOf 11 = .ok (.iload_n 1, 1) := by decide +kernel
theorem dX5_leastRoomOf_12 : decode cX5_leastRoomOf 12 = .ok (.iload_n 2, 1) := by decide +kernel
theorem dX5_leastRoomOf_13 : decode cX5_leastRoomOf 13 = .ok (.invokevirtual 288, 3) := by decide +kernel
theorem dX5_leastRoomOf_16 : decode cX5_leastRoomOf 16 = .ok (.ifCond .eq 5, 3) := by decide +kernel
theorem dX5_leastRoomOf_19 : decode cX5_leastRoomOf 19 = .ok (.iload_n 2, 1) := by decide +kernel
theorem dX5_leastRoomOf_20 : decode cX5_leastRoomOf 20 = .ok (.ireturn, 1) := by decide +kernel
theorem dX5_leastRoomOf_21 : decode cX5_leastRoomOf 21 = .ok (.iinc 2 1, 3) := by decide +kernel
theorem dX5_leastRoomOf_24 : decode cX5_leastRoomOf 24 = .ok (.goto (-22), 3) := by decide +kernel
theorem dX5_leastRoomOf_27 : decode cX5_leastRoomOf 27 = .ok (.iconst (-1), 1) := by decide +kernel
theorem dX5_leastRoomOf_28 : decode cX5_leastRoomOf 28 = .ok (.ireturn, 1) := by decide +kernel
theorem dX5_placeOfThing_0 : decode cX5_placeOfThing 0 = .ok (.aload_n 1, 1) := by decide +kernel
theorem dX5_placeOfThing_1 : decode cX5_placeOfThing 1 = .ok (.getfield 279, 3) := by decide +kernel
theorem dX5_placeOfThing_4 : decode cX5_placeOfThing 4 = .ok (.ifnull 14, 3) := by decide +kernel
theorem dX5_placeOfThing_7 : decode cX5_placeOfThing 7 = .ok (.bipush 100, 2) := by decide +kernel
theorem dX5_placeOfThing_9 : decode cX5_placeOfThing 9 = .ok (.aload_n 1, 1) := by decide +kernel
theorem dX5_placeOfThing_10 : decode cX5_placeOfThing 10 = .ok (.getfield 279, 3) := by decide +kernel
theorem dX5_placeOfThing_13 : decode cX5_placeOfThing 13 = .ok (.getfield 291, 3) := by decide +kernel
theorem dX5_placeOfThing_16 : decode cX5_placeOfThing 16 = .ok (.iadd, 1) := by decide +kernel
theorem dX5_placeOfThing_17 : decode cX5_placeOfThing 17 = .ok (.ireturn, 1) := by decide +kernel
theorem dX5_placeOfThing_18 : decode cX5_placeOfThing 18 = .ok (.aload_n 1, 1) := by decide +kernel
theorem dX5_placeOfThing_19 : decode cX5_placeOfThing 19 = .ok (.getfield 126, 3) := by decide +kernel
theorem dX5_placeOfThing_22 : decode cX5_placeOfThing 22 = .ok (.iconst (-1), 1) := by decide +kernel
theorem dX5_placeOfThing_23 : decode cX5_placeOfThing 23 = .ok (.if_icmp .ne 10, 3) := by decide +kernel
theorem dX5_placeOfThing_26 : decode cX5_placeOfThing 26 = .ok (.aload_n 1, 1) := by decide +kernel
theorem dX5_placeOfThing_27 : decode cX5_placeOfThing 27 = .ok (.getfield 287, 3) := by decide +kernel
theorem dX5_placeOfThing_30 : decode cX5_placeOfThing 30 = .ok (.goto 14, 3) := by decide +kernel
theorem dX5_placeOfThing_33 : decode cX5_placeOfThing 33 = .ok (.aload_n 0, 1) := by decide +kernel
theorem dX5_placeOfThing_34 : decode cX5_placeOfThing 34 = .ok (.aload_n 1, 1) := by decide +kernel
theorem dX5_placeOfThing_35 : decode cX5_placeOfThing 35 = .ok (.getfield 126, 3) := by decide +kernel
theorem dX5_placeOfThing_38 : decode cX5_placeOfThing 38 = .ok (.invokevirtual 292, 3) := by decide +kernel
theorem dX5_placeOfThing_41 : decode cX5_placeOfThing 41 = .ok (.invokestatic 220, 3) := by decide +kernel
theorem dX5_placeOfThing_44 : decode cX5_placeOfThing 44 = .ok (.ireturn, 1) := by decide +kernel
theorem dX5_openDoor_0 : decode cX5_openDoor 0 = .ok (.aload_n 0, 1) := by decide +kernel
theorem dX5_openDoor_1 : decode cX5_openDoor 1 = .ok (.getfield 207, 3) := by decide +kernel
theorem dX5_openDoor_4 : decode cX5_openDoor 4 = .ok (.ifCond .eq 6, 3) := by decide +kernel
theorem dX5_openDoor_7 : decode cX5_openDoor 7 = .ok (.bipush (-11), 2) := by decide +kernel
theorem dX5_openDoor_9 : decode cX5_openDoor 9 = .ok (.ireturn, 1) := by decide +kernel
theorem dX5_openDoor_10 : decode cX5_openDoor 10 = .ok (.aload_n 0, 1) := by decide +kernel
theorem dX5_openDoor_11 : decode cX5_openDoor 11 = .ok (.getfield 116, 3) := by decide +kernel
theorem dX5_openDoor_14 : decode cX5_openDoor 14 = .ok (.ifCond .eq 6, 3) := by decide +kernel
theorem dX5_openDoor_17 : decode cX5_openDoor 17 = .ok (.bipush (-12), 2) := by decide +kernel
theorem dX5_openDoor_19 : decode cX5_openDoor 19 = .ok (.ireturn, 1) := by decide +kernel
theorem dX5_openDoor_20 : decode cX5_openDoor 20 = .ok (.aload_n 0, 1) := by decide +kernel
theorem dX5_openDoor_21 : decode cX5_openDoor 21 = .ok (.iconst 1, 1) := by decide +kernel
theorem dX5_openDoor_22 : decode cX5_openDoor 22 = .ok (.putfield 207, 3) := by decide +kernel
theorem dX5_openDoor_25 : decode cX5_openDoor 25 = .ok (.iconst 1, 1) := by decide +kernel
theorem dX5_openDoor_26 : decode cX5_openDoor 26 = .ok (.ireturn, 1) := by decide +kernel
theorem dX5_closeDoor_0 : decode cX5_closeDoor 0 = .ok (.aload_n 0, 1) := by decide +kernel
theorem dX5_closeDoor_1 : decode cX5_closeDoor 1 = .ok (.getfield 207, 3) := by decide +kernel
theorem dX5_closeDoor_4 : decode cX5_closeDoor 4 = .ok (.ifCond .ne 6, 3) := by decide +kernel
theorem dX5_closeDoor_7 : decode cX5_closeDoor 7 = .ok (.bipush (-11), 2) := by decide +kernel
theorem dX5_closeDoor_9 : decode cX5_closeDoor 9 = .ok (.ireturn, 1) := by decide +kernel
theorem dX5_closeDoor_10 : decode cX5_closeDoor 10 = .ok (.aload_n 0, 1) := by decide +kernel
theorem dX5_closeDoor_11 : decode cX5_closeDoor 11 = .ok (.iconst 0, 1) := by decide +kernel
theorem dX5_closeDoor_12 : decode cX5_closeDoor 12 = .ok (.putfield 207, 3) := by decide +kernel
theorem dX5_closeDoor_15 : decode cX5_closeDoor 15 = .ok (.iconst 1, 1) := by decide +kernel
theorem dX5_closeDoor_16 : decode cX5_closeDoor 16 = .ok (.ireturn, 1) := by decide +kernel
theorem dX5_turnKey_0 : decode cX5_turnKey 0 = .ok (.aload_n 2, 1) := by decide +kernel
theorem dX5_turnKey_1 : decode cX5_turnKey 1 = .ok (.getfield 116, 3) := by decide +kernel
theorem dX5_turnKey_4 : decode cX5_turnKey 4 = .ok (.iload_n 3, 1) := by decide +kernel
theorem dX5_turnKey_5 : decode cX5_turnKey 5 = .ok (.if_icmp .ne 6, 3) := by decide +kernel
theorem dX5_turnKey_8 : decode cX5_turnKey 8 = .ok (.bipush (-11), 2) := by decide +kernel
theorem dX5_turnKey_10 : decode cX5_turnKey 10 = .ok (.ireturn, 1) := by decide +kernel
theorem dX5_turnKey_11 : decode cX5_turnKey 11 = .ok (.aload_n 2, 1) := by decide +kernel
theorem dX5_turnKey_12 : decode cX5_turnKey 12 = .ok (.getfield 112, 3) := by decide +kernel
theorem dX5_turnKey_15 : decode cX5_turnKey 15 = .ok (.ifnonnull 6, 3) := by decide +kernel
theorem dX5_turnKey_18 : decode cX5_turnKey 18 = .ok (.bipush (-13), 2) := by decide +kernel
theorem dX5_turnKey_20 : decode cX5_turnKey 20 = .ok (.ireturn, 1) := by decide +kernel
theorem dX5_turnKey_21 : decode cX5_turnKey 21 = .ok (.aload_n 2, 1) := by decide +kernel
theorem dX5_turnKey_22 : decode cX5_turnKey 22 = .ok (.getfield 112, 3) := by decide +kernel
theorem dX5_turnKey_25 : decode cX5_turnKey 25 = .ok (.getfield 279, 3) := by decide +kernel
theorem dX5_turnKey_28 : decode cX5_turnKey 28 = .ok (.aload_n 1, 1) := by decide +kernel
theorem dX5_turnKey_29 : decode cX5_turnKey 29 = .ok (.if_acmp .eq 19, 3) := by decide +kernel
theorem dX5_turnKey_32 : decode cX5_turnKey 32 = .ok (.aload_n 0, 1) := by decide +kernel
theorem dX5_turnKey_33 : decode cX5_turnKey 33 = .ok (.aload_n 1, 1) := by decide +kernel
theorem dX5_turnKey_34 : decode cX5_turnKey 34 = .ok (.invokevirtual 295, 3) := by decide +kernel
theorem dX5_turnKey_37 : decode cX5_turnKey 37 = .ok (.ifCond .eq 8, 3) := by decide +kernel
theorem dX5_turnKey_40 : decode cX5_turnKey 40 = .ok (.bipush (-15), 2) := by decide +kernel
theorem dX5_turnKey_42 : decode cX5_turnKey 42 = .ok (.goto 5, 3) := by decide +kernel
theorem dX5_turnKey_45 : decode cX5_turnKey 45 = .ok (.bipush (-14), 2) := by decide +kernel
theorem dX5_turnKey_47 : decode cX5_turnKey 47 = .ok (.ireturn, 1) := by decide +kernel
theorem dX5_turnKey_48 : decode cX5_turnKey 48 = .ok (.aload_n 2, 1) := by decide +kernel
theorem dX5_turnKey_49 : decode cX5_turnKey 49 = .ok (.iload_n 3, 1) := by decide +kernel
theorem dX5_turnKey_50 : decode cX5_turnKey 50 = .ok (.putfield 116, 3) := by decide +kernel
theorem dX5_turnKey_53 : decode cX5_turnKey 53 = .ok (.iconst 1, 1) := by decide +kernel
theorem dX5_turnKey_54 : decode cX5_turnKey 54 = .ok (.ireturn, 1) := by decide +kernel
theorem dX5_holdsAnyKey_0 : decode cX5_holdsAnyKey 0 = .ok (.iconst 0, 1) := by decide +kernel
theorem dX5_holdsAnyKey_1 : decode cX5_holdsAnyKey 1 = .ok (.istore_n 2, 1) := by decide +kernel
theorem dX5_holdsAnyKey_2 : decode cX5_holdsAnyKey 2 = .ok (.iload_n 2, 1) := by decide +kernel
theorem dX5_holdsAnyKey_3 : decode cX5_holdsAnyKey 3 = .ok (.aload_n 0, 1) := by decide +kernel
theorem dX5_holdsAnyKey_4 : decode cX5_holdsAnyKey 4 = .ok (.getfield 65, 3) := by decide +kernel
theorem dX5_holdsAnyKey_7 : decode cX5_holdsAnyKey 7 = .ok (.if_icmp .ge 39, 3) := by decide +kernel
theorem dX5_holdsAnyKey_10 : decode cX5_holdsAnyKey 10 = .ok (.aload_n 0, 1) := by decide +kernel
theorem dX5_holdsAnyKey_11 : decode cX5_holdsAnyKey 11 = .ok (.iload_n 2, 1) := by decide +kernel
theorem dX5_holdsAnyKey_12 : decode cX5_holdsAnyKey 12 = .ok (.invokevirtual 101, 3) := by decide +kernel
theorem dX5_holdsAnyKey_15 : decode cX5_holdsAnyKey 15 = .ok (.astore_n 3, 1) := by decide +kernel
theorem dX5_holdsAnyKey_16 : decode cX5_holdsAnyKey 16 = .ok (.aload_n 3, 1) := by decide +kernel
theorem dX5_holdsAnyKey_17 : decode cX5_holdsAnyKey 17 = .ok (.ifnull 23, 3) := by decide +kernel
theorem dX5_holdsAnyKey_20 : decode cX5_holdsAnyKey 20 = .ok (.aload_n 3, 1) := by decide +kernel
theorem dX5_holdsAnyKey_21 : decode cX5_holdsAnyKey 21 = .ok (.getfield 112, 3) := by decide +kernel
theorem dX5_holdsAnyKey_24 : decode cX5_holdsAnyKey 24 = .ok (.ifnull 16, 3) := by decide +kernel
theorem dX5_holdsAnyKey_27 : decode cX5_holdsAnyKey 27 = .ok (.aload_n 3, 1) := by decide +kernel
theorem dX5_holdsAnyKey_28 : decode cX5_holdsAnyKey 28 = .ok (.getfield 112, 3) := by decide +kernel
theorem dX5_holdsAnyKey_31 : decode cX5_holdsAnyKey 31 = .ok (.getfield 279, 3) := by decide +kernel
theorem dX5_holdsAnyKey_34 : decode cX5_holdsAnyKey 34 = .ok (.aload_n 1, 1) := by decide +kernel
theorem dX5_holdsAnyKey_35 : decode cX5_holdsAnyKey 35 = .ok (.if_acmp .ne 5, 3) := by decide +kernel
theorem dX5_holdsAnyKey_38 : decode cX5_holdsAnyKey 38 = .ok (.iconst 1, 1) := by decide +kernel
theorem dX5_holdsAnyKey_39 : decode cX5_holdsAnyKey 39 = .ok (.ireturn, 1) := by decide +kernel
theorem dX5_holdsAnyKey_40 : decode cX5_holdsAnyKey 40 = .ok (.iinc 2 1, 3) := by decide +kernel
theorem dX5_holdsAnyKey_43 : decode cX5_holdsAnyKey 43 = .ok (.goto (-41), 3) := by decide +kernel
theorem dX5_holdsAnyKey_46 : decode cX5_holdsAnyKey 46 = .ok (.iconst 0, 1) := by decide +kernel
theorem dX5_holdsAnyKey_47 : decode cX5_holdsAnyKey 47 = .ok (.ireturn, 1) := by decide +kernel
theorem dX5_take_0 : decode cX5_take 0 = .ok (.aload_n 1, 1) := by decide +kernel
theorem dX5_take_1 : decode cX5_take 1 = .ok (.getfield 279, 3) := by decide +kernel
theorem dX5_take_4 : decode cX5_take 4 = .ok (.aload_n 0, 1) := by decide +kernel
theorem dX5_take_5 : decode cX5_take 5 = .ok (.if_acmp .ne 6, 3) := by decide +kernel
theorem dX5_take_8 : decode cX5_take 8 = .ok (.bipush (-11), 2) := by decide +kernel
theorem dX5_take_10 : decode cX5_take 10 = .ok (.ireturn, 1) := by decide +kernel
theorem dX5_take_11 : decode cX5_take 11 = .ok (.aload_n 1, 1) := by decide +kernel
theorem dX5_take_12 : decode cX5_take 12 = .ok (.getfield 109, 3) := by decide +kernel
theorem dX5_take_15 : decode cX5_take 15 = .ok (.ifCond .eq 6, 3) := by decide +kernel
theorem dX5_take_18 : decode cX5_take 18 = .ok (.bipush (-16), 2) := by decide +kernel
theorem dX5_take_20 : decode cX5_take 20 = .ok (.ireturn, 1) := by decide +kernel
theorem dX5_take_21 : decode cX5_take 21 = .ok (.aload_n 0, 1) := by decide +kernel
theorem dX5_take_22 : decode cX5_take 22 = .ok (.getfield 229, 3) := by decide +kernel
theorem dX5_take_25 : decode cX5_take 25 = .ok (.iconst 4, 1) := by decide +kernel
theorem dX5_take_26 : decode cX5_take 26 = .ok (.if_icmp .lt 6, 3) := by decide +kernel
theorem dX5_take_29 : decode cX5_take 29 = .ok (.bipush (-17), 2) := by decide +kernel
theorem dX5_take_31 : decode cX5_take 31 = .ok (.ireturn, 1) := by decide +kernel
theorem dX5_take_32 : decode cX5_take 32 = .ok (.aload_n 1, 1) := by decide +kernel
theorem dX5_take_33 : decode cX5_take 33 = .ok (.aload_n 0, 1) := by decide +kernel
theorem dX5_take_34 : decode cX5_take 34 = .ok (.putfield 279, 3) := by decide +kernel
theorem dX5_take_37 : decode cX5_take 37 = .ok (.aload_n 0, 1) := by decide +kernel
theorem dX5_take_38 : decode cX5_take 38 = .ok (.dup, 1) := by decide +kernel
theorem dX5_take_39 : decode cX5_take 39 = .ok (.getfield 229, 3) := by decide +kernel
theorem dX5_take_42 : decode cX5_take 42 = .ok (.iconst 1, 1) := by decide +kernel
theorem dX5_take_43 : decode cX5_take 43 = .ok (.iadd, 1) := by decide +kernel
theorem dX5_take_44 : decode cX5_take 44 = .ok (.putfield 229, 3) := by decide +kernel
theorem dX5_take_47 : decode cX5_take 47 = .ok (.iconst 1, 1) := by decide +kernel
theorem dX5_take_48 : decode cX5_take 48 = .ok (.ireturn, 1) := by decide +kernel
theorem dX5_drop_0 : decode cX5_drop 0 = .ok (.aload_n 1, 1) := by decide +kernel
theorem dX5_drop_1 : decode cX5_drop 1 = .ok (.getfield 279, 3) := by decide +kernel
theorem dX5_drop_4 : decode cX5_drop 4 = .ok (.aload_n 0, 1) := by decide +kernel
theorem dX5_drop_5 : decode cX5_drop 5 = .ok (.if_acmp .eq 6, 3) := by decide +kernel
theorem dX5_drop_8 : decode cX5_drop 8 = .ok (.bipush (-18), 2) := by decide +kernel
theorem dX5_drop_10 : decode cX5_drop 10 = .ok (.ireturn, 1) := by decide +kernel
theorem dX5_drop_11 : decode cX5_drop 11 = .ok (.aload_n 1, 1) := by decide +kernel
theorem dX5_drop_12 : decode cX5_drop 12 = .ok (.aconst_null, 1) := by decide +kernel
theorem dX5_drop_13 : decode cX5_drop 13 = .ok (.putfield 279, 3) := by decide +kernel
theorem dX5_drop_16 : decode cX5_drop 16 = .ok (.aload_n 1, 1) := by decide +kernel
theorem dX5_drop_17 : decode cX5_drop 17 = .ok (.aload_n 0, 1) := by decide +kernel
theorem dX5_drop_18 : decode cX5_drop 18 = .ok (.getfield 191, 3) := by decide +kernel
theorem dX5_drop_21 : decode cX5_drop 21 = .ok (.putfield 287, 3) := by decide +kernel
theorem dX5_drop_24 : decode cX5_drop 24 = .ok (.aload_n 0, 1) := by decide +kernel
theorem dX5_drop_25 : decode cX5_drop 25 = .ok (.dup, 1) := by decide +kernel
theorem dX5_drop_26 : decode cX5_drop 26 = .ok (.getfield 229, 3) := by decide +kernel
theorem dX5_drop_29 : decode cX5_drop 29 = .ok (.iconst 1, 1) := by decide +kernel
theorem dX5_drop_30 : decode cX5_drop 30 = .ok (.isub, 1) := by decide +kernel
theorem dX5_drop_31 : decode cX5_drop 31 = .ok (.putfield 229, 3) := by decide +kernel
theorem dX5_drop_34 : decode cX5_drop 34 = .ok (.iconst 1, 1) := by decide +kernel
theorem dX5_drop_35 : decode cX5_drop 35 = .ok (.ireturn, 1) := by decide +kernel
theorem dX5_climbInto_0 : decode cX5_climbInto 0 = .ok (.aload_n 1, 1) := by decide +kernel
theorem dX5_climbInto_1 : decode cX5_climbInto 1 = .ok (.getfield 109, 3) := by decide +kernel
theorem dX5_climbInto_4 : decode cX5_climbInto 4 = .ok (.iconst 2, 1) := by decide +kernel
theorem dX5_climbInto_5 : decode cX5_climbInto 5 = .ok (.if_icmp .eq 14, 3) := by decide +kernel
theorem dX5_climbInto_8 : decode cX5_climbInto 8 = .ok (.aload_n 1, 1) := by decide +kernel
theorem dX5_climbInto_9 : decode cX5_climbInto 9 = .ok (.getfield 109, 3) := by decide +kernel
theorem dX5_climbInto_12 : decode cX5_climbInto 12 = .ok (.iconst 3, 1) := by decide +kernel
theorem dX5_climbInto_13 : decode cX5_climbInto 13 = .ok (.if_icmp .eq 6, 3) := by decide +kernel
theorem dX5_climbInto_16 : decode cX5_climbInto 16 = .ok (.bipush (-19), 2) := by decide +kernel
theorem dX5_climbInto_18 : decode cX5_climbInto 18 = .ok (.ireturn, 1) := by decide +kernel
theorem dX5_climbInto_19 : decode cX5_climbInto 19 = .ok (.aload_n 0, 1) := by decide +kernel
theorem dX5_climbInto_20 : decode cX5_climbInto 20 = .ok (.getfield 170, 3) := by decide +kernel
theorem dX5_climbInto_23 : decode cX5_climbInto 23 = .ok (.ifnull 6, 3) := by decide +kernel
theorem dX5_climbInto_26 : decode cX5_climbInto 26 = .ok (.bipush (-20), 2) := by decide +kernel
theorem dX5_climbInto_28 : decode cX5_climbInto 28 = .ok (.ireturn, 1) := by decide +kernel
theorem dX5_climbInto_29 : decode cX5_climbInto 29 = .ok (.aload_n 1, 1) := by decide +kernel
theorem dX5_climbInto_30 : decode cX5_climbInto 30 = .ok (.getfield 173, 3) := by decide +kernel
theorem dX5_climbInto_33 : decode cX5_climbInto 33 = .ok (.ifCond .eq 6, 3) := by decide +kernel
theorem dX5_climbInto_36 : decode cX5_climbInto 36 = .ok (.bipush (-21), 2) := by decide +kernel
theorem dX5_climbInto_38 : decode cX5_climbInto 38 = .ok (.ireturn, 1) := by decide +kernel
theorem dX5_climbInto_39 : decode cX5_climbInto 39 = .ok (.aload_n 0, 1) := by decide +kernel
theorem dX5_climbInto_40 : decode cX5_climbInto 40 = .ok (.aload_n 1, 1) := by decide +kernel
theorem dX5_climbInto_41 : decode cX5_climbInto 41 = .ok (.putfield 170, 3) := by decide +kernel
theorem dX5_climbInto_44 : decode cX5_climbInto 44 = .ok (.iconst 1, 1) := by decide +kernel
theorem dX5_climbInto_45 : decode cX5_climbInto 45 = .ok (.ireturn, 1) := by decide +kernel
theorem dX5_setShut_0 : decode cX5_setShut 0 = .ok (.aload_n 0, 1) := by decide +kernel
theorem dX5_setShut_1 : decode cX5_setShut 1 = .ok (.getfield 109, 3) := by decide +kernel
theorem dX5_setShut_4 : decode cX5_setShut 4 = .ok (.iconst 3, 1) := by decide +kernel
theorem dX5_setShut_5 : decode cX5_setShut 5 = .ok (.if_icmp .eq 6, 3) := by decide +kernel
theorem dX5_setShut_8 : decode cX5_setShut 8 = .ok (.bipush (-22), 2) := by decide +kernel
theorem dX5_setShut_10 : decode cX5_setShut 10 = .ok (.ireturn, 1) := by decide +kernel
theorem dX5_setShut_11 : decode cX5_setShut 11 = .ok (.aload_n 0, 1) := by decide +kernel
theorem dX5_setShut_12 : decode cX5_setShut 12 = .ok (.getfield 173, 3) := by decide +kernel
theorem dX5_setShut_15 : decode cX5_setShut 15 = .ok (.iload_n 1, 1) := by decide +kernel
theorem dX5_setShut_16 : decode cX5_setShut 16 = .ok (.if_icmp .ne 6, 3) := by decide +kernel
theorem dX5_setShut_19 : decode cX5_setShut 19 = .ok (.bipush (-11), 2) := by decide +kernel
