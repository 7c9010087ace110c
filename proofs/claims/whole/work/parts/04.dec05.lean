theorem dX9_serving_2 : decode cX9_serving 2 = .ok (.invokevirtual 229, 3) := by decide +kernel
theorem dX9_serving_5 : decode cX9_serving 5 = .ok (.ifCond .ne 9, 3) := by decide +kernel
theorem dX9_serving_8 : decode cX9_serving 8 = .ok (.aload_n 0, 1) := by decide +kernel
theorem dX9_serving_9 : decode cX9_serving 9 = .ok (.iconst 1, 1) := by decide +kernel
theorem dX9_serving_10 : decode cX9_serving 10 = .ok (.invokevirtual 220, 3) := by decide +kernel
theorem dX9_serving_13 : decode cX9_serving 13 = .ok (.ireturn, 1) := by decide +kernel
theorem dX9_serving_14 : decode cX9_serving 14 = .ok (.iload_n 2, 1) := by decide +kernel
theorem dX9_serving_15 : decode cX9_serving 15 = .ok (.iconst 0, 1) := by decide +kernel
theorem dX9_serving_16 : decode cX9_serving 16 = .ok (.iconst 2, 1) := by decide +kernel
theorem dX9_serving_17 : decode cX9_serving 17 = .ok (.invokestatic 90, 3) := by decide +kernel
theorem dX9_serving_20 : decode cX9_serving 20 = .ok (.ifCond .ne 9, 3) := by decide +kernel
theorem dX9_serving_23 : decode cX9_serving 23 = .ok (.aload_n 0, 1) := by decide +kernel
theorem dX9_serving_24 : decode cX9_serving 24 = .ok (.iconst 2, 1) := by decide +kernel
theorem dX9_serving_25 : decode cX9_serving 25 = .ok (.invokevirtual 220, 3) := by decide +kernel
theorem dX9_serving_28 : decode cX9_serving 28 = .ok (.ireturn, 1) := by decide +kernel
theorem dX9_serving_29 : decode cX9_serving 29 = .ok (.aload_n 0, 1) := by decide +kernel
theorem dX9_serving_30 : decode cX9_serving 30 = .ok (.iload_n 1, 1) := by decide +kernel
theorem dX9_serving_31 : decode cX9_serving 31 = .ok (.invokevirtual 255, 3) := by decide +kernel
theorem dX9_serving_34 : decode cX9_serving 34 = .ok (.ifCond .ne 9, 3) := by decide +kernel
theorem dX9_serving_37 : decode cX9_serving 37 = .ok (.aload_n 0, 1) := by decide +kernel
theorem dX9_serving_38 : decode cX9_serving 38 = .ok (.iconst 3, 1) := by decide +kernel
theorem dX9_serving_39 : decode cX9_serving 39 = .ok (.invokevirtual 220, 3) := by decide +kernel
theorem dX9_serving_42 : decode cX9_serving 42 = .ok (.ireturn, 1) := by decide +kernel
theorem dX9_serving_43 : decode cX9_serving 43 = .ok (.aload_n 0, 1) := by decide +kernel
theorem dX9_serving_44 : decode cX9_serving 44 = .ok (.iconst 0, 1) := by decide +kernel
theorem dX9_serving_45 : decode cX9_serving 45 = .ok (.putfield 87, 3) := by decide +kernel
theorem dX9_serving_48 : decode cX9_serving 48 = .ok (.iload_n 2, 1) := by decide +kernel
theorem dX9_serving_49 : decode cX9_serving 49 = .ok (.ifCond .ne 10, 3) := by decide +kernel
theorem dX9_serving_52 : decode cX9_serving 52 = .ok (.aload_n 0, 1) := by decide +kernel
theorem dX9_serving_53 : decode cX9_serving 53 = .ok (.getfield 181, 3) := by decide +kernel
theorem dX9_serving_56 : decode cX9_serving 56 = .ok (.goto 19, 3) := by decide +kernel
theorem dX9_serving_59 : decode cX9_serving 59 = .ok (.iload_n 2, 1) := by decide +kernel
theorem dX9_serving_60 : decode cX9_serving 60 = .ok (.iconst 1, 1) := by decide +kernel
theorem dX9_serving_61 : decode cX9_serving 61 = .ok (.if_icmp .ne 10, 3) := by decide +kernel
theorem dX9_serving_64 : decode cX9_serving 64 = .ok (.aload_n 0, 1) := by decide +kernel
theorem dX9_serving_65 : decode cX9_serving 65 = .ok (.getfield 184, 3) := by decide +kernel
theorem dX9_serving_68 : decode cX9_serving 68 = .ok (.goto 7, 3) := by decide +kernel
theorem dX9_serving_71 : decode cX9_serving 71 = .ok (.aload_n 0, 1) := by decide +kernel
theorem dX9_serving_72 : decode cX9_serving 72 = .ok (.getfield 187, 3) := by decide +kernel
theorem dX9_serving_75 : decode cX9_serving 75 = .ok (.ireturn, 1) := by decide +kernel
theorem dX9_serve_0 : decode cX9_serve 0 = .ok (.aload_n 0, 1) := by decide +kernel
theorem dX9_serve_1 : decode cX9_serve 1 = .ok (.iload_n 1, 1) := by decide +kernel
theorem dX9_serve_2 : decode cX9_serve 2 = .ok (.invokevirtual 229, 3) := by decide +kernel
theorem dX9_serve_5 : decode cX9_serve 5 = .ok (.ifCond .ne 9, 3) := by decide +kernel
theorem dX9_serve_8 : decode cX9_serve 8 = .ok (.aload_n 0, 1) := by decide +kernel
theorem dX9_serve_9 : decode cX9_serve 9 = .ok (.iconst 1, 1) := by decide +kernel
theorem dX9_serve_10 : decode cX9_serve 10 = .ok (.invokevirtual 220, 3) := by decide +kernel
theorem dX9_serve_13 : decode cX9_serve 13 = .ok (.ireturn, 1) := by decide +kernel
theorem dX9_serve_14 : decode cX9_serve 14 = .ok (.aload_n 0, 1) := by decide +kernel
theorem dX9_serve_15 : decode cX9_serve 15 = .ok (.getfield 31, 3) := by decide +kernel
theorem dX9_serve_18 : decode cX9_serve 18 = .ok (.iload_n 1, 1) := by decide +kernel
theorem dX9_serve_19 : decode cX9_serve 19 = .ok (.iaload, 1) := by decide +kernel
theorem dX9_serve_20 : decode cX9_serve 20 = .ok (.ifCond .eq 10, 3) := by decide +kernel
theorem dX9_serve_23 : decode cX9_serve 23 = .ok (.aload_n 0, 1) := by decide +kernel
theorem dX9_serve_24 : decode cX9_serve 24 = .ok (.iconst 1, 1) := by decide +kernel
theorem dX9_serve_25 : decode cX9_serve 25 = .ok (.iconst 2, 1) := by decide +kernel
theorem dX9_serve_26 : decode cX9_serve 26 = .ok (.invokevirtual 248, 3) := by decide +kernel
theorem dX9_serve_29 : decode cX9_serve 29 = .ok (.ireturn, 1) := by decide +kernel
theorem dX9_serve_30 : decode cX9_serve 30 = .ok (.aload_n 0, 1) := by decide +kernel
theorem dX9_serve_31 : decode cX9_serve 31 = .ok (.iload_n 1, 1) := by decide +kernel
theorem dX9_serve_32 : decode cX9_serve 32 = .ok (.invokevirtual 255, 3) := by decide +kernel
theorem dX9_serve_35 : decode cX9_serve 35 = .ok (.ifCond .ne 11, 3) := by decide +kernel
theorem dX9_serve_38 : decode cX9_serve 38 = .ok (.aload_n 0, 1) := by decide +kernel
theorem dX9_serve_39 : decode cX9_serve 39 = .ok (.bipush 12, 2) := by decide +kernel
theorem dX9_serve_41 : decode cX9_serve 41 = .ok (.iconst 2, 1) := by decide +kernel
theorem dX9_serve_42 : decode cX9_serve 42 = .ok (.invokevirtual 248, 3) := by decide +kernel
theorem dX9_serve_45 : decode cX9_serve 45 = .ok (.ireturn, 1) := by decide +kernel
theorem dX9_serve_46 : decode cX9_serve 46 = .ok (.aload_n 0, 1) := by decide +kernel
theorem dX9_serve_47 : decode cX9_serve 47 = .ok (.iconst 0, 1) := by decide +kernel
theorem dX9_serve_48 : decode cX9_serve 48 = .ok (.putfield 87, 3) := by decide +kernel
theorem dX9_serve_51 : decode cX9_serve 51 = .ok (.aload_n 0, 1) := by decide +kernel
theorem dX9_serve_52 : decode cX9_serve 52 = .ok (.invokevirtual 223, 3) := by decide +kernel
theorem dX9_serve_55 : decode cX9_serve 55 = .ok (.aload_n 0, 1) := by decide +kernel
theorem dX9_serve_56 : decode cX9_serve 56 = .ok (.iload_n 1, 1) := by decide +kernel
theorem dX9_serve_57 : decode cX9_serve 57 = .ok (.invokevirtual 258, 3) := by decide +kernel
theorem dX9_serve_60 : decode cX9_serve 60 = .ok (.ireturn, 1) := by decide +kernel
theorem dX9_isAhead_0 : decode cX9_isAhead 0 = .ok (.aload_n 0, 1) := by decide +kernel
theorem dX9_isAhead_1 : decode cX9_isAhead 1 = .ok (.getfield 28, 3) := by decide +kernel
theorem dX9_isAhead_4 : decode cX9_isAhead 4 = .ok (.iload_n 1, 1) := by decide +kernel
theorem dX9_isAhead_5 : decode cX9_isAhead 5 = .ok (.iaload, 1) := by decide +kernel
theorem dX9_isAhead_6 : decode cX9_isAhead 6 = .ok (.aload_n 0, 1) := by decide +kernel
theorem dX9_isAhead_7 : decode cX9_isAhead 7 = .ok (.getfield 28, 3) := by decide +kernel
theorem dX9_isAhead_10 : decode cX9_isAhead 10 = .ok (.iload_n 2, 1) := by decide +kernel
theorem dX9_isAhead_11 : decode cX9_isAhead 11 = .ok (.iaload, 1) := by decide +kernel
theorem dX9_isAhead_12 : decode cX9_isAhead 12 = .ok (.if_icmp .eq 26, 3) := by decide +kernel
theorem dX9_isAhead_15 : decode cX9_isAhead 15 = .ok (.aload_n 0, 1) := by decide +kernel
theorem dX9_isAhead_16 : decode cX9_isAhead 16 = .ok (.getfield 28, 3) := by decide +kernel
theorem dX9_isAhead_19 : decode cX9_isAhead 19 = .ok (.iload_n 1, 1) := by decide +kernel
theorem dX9_isAhead_20 : decode cX9_isAhead 20 = .ok (.iaload, 1) := by decide +kernel
theorem dX9_isAhead_21 : decode cX9_isAhead 21 = .ok (.aload_n 0, 1) := by decide +kernel
theorem dX9_isAhead_22 : decode cX9_isAhead 22 = .ok (.getfield 28, 3) := by decide +kernel
theorem dX9_isAhead_25 : decode cX9_isAhead 25 = .ok (.iload_n 2, 1) := by decide +kernel
theorem dX9_isAhead_26 : decode cX9_isAhead 26 = .ok (.iaload, 1) := by decide +kernel
theorem dX9_isAhead_27 : decode cX9_isAhead 27 = .ok (.if_icmp .ge 7, 3) := by decide +kernel
theorem dX9_isAhead_30 : decode cX9_isAhead 30 = .ok (.iconst 1, 1) := by decide +kernel
theorem dX9_isAhead_31 : decode cX9_isAhead 31 = .ok (.goto 55, 3) := by decide +kernel
theorem dX9_isAhead_34 : decode cX9_isAhead 34 = .ok (.iconst 0, 1) := by decide +kernel
theorem dX9_isAhead_35 : decode cX9_isAhead 35 = .ok (.goto 51, 3) := by decide +kernel
theorem dX9_isAhead_38 : decode cX9_isAhead 38 = .ok (.aload_n 0, 1) := by decide +kernel
theorem dX9_isAhead_39 : decode cX9_isAhead 39 = .ok (.getfield 25, 3) := by decide +kernel
theorem dX9_isAhead_42 : decode cX9_isAhead 42 = .ok (.iload_n 1, 1) := by decide +kernel
theorem dX9_isAhead_43 : decode cX9_isAhead 43 = .ok (.iaload, 1) := by decide +kernel
theorem dX9_isAhead_44 : decode cX9_isAhead 44 = .ok (.aload_n 0, 1) := by decide +kernel
theorem dX9_isAhead_45 : decode cX9_isAhead 45 = .ok (.getfield 25, 3) := by decide +kernel
theorem dX9_isAhead_48 : decode cX9_isAhead 48 = .ok (.iload_n 2, 1) := by decide +kernel
theorem dX9_isAhead_49 : decode cX9_isAhead 49 = .ok (.iaload, 1) := by decide +kernel
theorem dX9_isAhead_50 : decode cX9_isAhead 50 = .ok (.if_icmp .eq 26, 3) := by decide +kernel
theorem dX9_isAhead_53 : decode cX9_isAhead 53 = .ok (.aload_n 0, 1) := by decide +kernel
theorem dX9_isAhead_54 : decode cX9_isAhead 54 = .ok (.getfield 25, 3) := by decide +kernel
theorem dX9_isAhead_57 : decode cX9_isAhead 57 = .ok (.iload_n 1, 1) := by decide +kernel
theorem dX9_isAhead_58 : decode cX9_isAhead 58 = .ok (.iaload, 1) := by decide +kernel
theorem dX9_isAhead_59 : decode cX9_isAhead 59 = .ok (.aload_n 0, 1) := by decide +kernel
theorem dX9_isAhead_60 : decode cX9_isAhead 60 = .ok (.getfield 25, 3) := by decide +kernel
theorem dX9_isAhead_63 : decode cX9_isAhead 63 = .ok (.iload_n 2, 1) := by decide +kernel
theorem dX9_isAhead_64 : decode cX9_isAhead 64 = .ok (.iaload, 1) := by decide +kernel
theorem dX9_isAhead_65 : decode cX9_isAhead 65 = .ok (.if_icmp .ge 7, 3) := by decide +kernel
theorem dX9_isAhead_68 : decode cX9_isAhead 68 = .ok (.iconst 1, 1) := by decide +kernel
theorem dX9_isAhead_69 : decode cX9_isAhead 69 = .ok (.goto 17, 3) := by decide +kernel
theorem dX9_isAhead_72 : decode cX9_isAhead 72 = .ok (.iconst 0, 1) := by decide +kernel
theorem dX9_isAhead_73 : decode cX9_isAhead 73 = .ok (.goto 13, 3) := by decide +kernel
theorem dX9_isAhead_76 : decode cX9_isAhead 76 = .ok (.iload_n 1, 1) := by decide +kernel
theorem dX9_isAhead_77 : decode cX9_isAhead 77 = .ok (.iload_n 2, 1) := by decide +kernel
theorem dX9_isAhead_78 : decode cX9_isAhead 78 = .ok (.if_icmp .ge 7, 3) := by decide +kernel
theorem dX9_isAhead_81 : decode cX9_isAhead 81 = .ok (.iconst 1, 1) := by decide +kernel
theorem dX9_isAhead_82 : decode cX9_isAhead 82 = .ok (.goto 4, 3) := by decide +kernel
theorem dX9_isAhead_85 : decode cX9_isAhead 85 = .ok (.iconst 0, 1) := by decide +kernel
theorem dX9_isAhead_86 : decode cX9_isAhead 86 = .ok (.ireturn, 1) := by decide +kernel
theorem dX9_nextUrgent_0 : decode cX9_nextUrgent 0 = .ok (.iconst (-1), 1) := by decide +kernel
theorem dX9_nextUrgent_1 : decode cX9_nextUrgent 1 = .ok (.istore_n 2, 1) := by decide +kernel
theorem dX9_nextUrgent_2 : decode cX9_nextUrgent 2 = .ok (.iconst 0, 1) := by decide +kernel
theorem dX9_nextUrgent_3 : decode cX9_nextUrgent 3 = .ok (.istore_n 3, 1) := by decide +kernel
theorem dX9_nextUrgent_4 : decode cX9_nextUrgent 4 = .ok (.iload_n 3, 1) := by decide +kernel
theorem dX9_nextUrgent_5 : decode cX9_nextUrgent 5 = .ok (.aload_n 0, 1) := by decide +kernel
theorem dX9_nextUrgent_6 : decode cX9_nextUrgent 6 = .ok (.getfield 100, 3) := by decide +kernel
theorem dX9_nextUrgent_9 : decode cX9_nextUrgent 9 = .ok (.if_icmp .ge 46, 3) := by decide +kernel
theorem dX9_nextUrgent_12 : decode cX9_nextUrgent 12 = .ok (.aload_n 0, 1) := by decide +kernel
theorem dX9_nextUrgent_13 : decode cX9_nextUrgent 13 = .ok (.getfield 31, 3) := by decide +kernel
theorem dX9_nextUrgent_16 : decode cX9_nextUrgent 16 = .ok (.iload_n 3, 1) := by decide +kernel
theorem dX9_nextUrgent_17 : decode cX9_nextUrgent 17 = .ok (.iaload, 1) := by decide +kernel
theorem dX9_nextUrgent_18 : decode cX9_nextUrgent 18 = .ok (.ifCond .ne 31, 3) := by decide +kernel
theorem dX9_nextUrgent_21 : decode cX9_nextUrgent 21 = .ok (.iload_n 1, 1) := by decide +kernel
theorem dX9_nextUrgent_22 : decode cX9_nextUrgent 22 = .ok (.ifCond .lt 12, 3) := by decide +kernel
theorem dX9_nextUrgent_25 : decode cX9_nextUrgent 25 = .ok (.aload_n 0, 1) := by decide +kernel
theorem dX9_nextUrgent_26 : decode cX9_nextUrgent 26 = .ok (.iload_n 1, 1) := by decide +kernel
theorem dX9_nextUrgent_27 : decode cX9_nextUrgent 27 = .ok (.iload_n 3, 1) := by decide +kernel
theorem dX9_nextUrgent_28 : decode cX9_nextUrgent 28 = .ok (.invokevirtual 261, 3) := by decide +kernel
theorem dX9_nextUrgent_31 : decode cX9_nextUrgent 31 = .ok (.ifCond .eq 18, 3) := by decide +kernel
theorem dX9_nextUrgent_34 : decode cX9_nextUrgent 34 = .ok (.iload_n 2, 1) := by decide +kernel
theorem dX9_nextUrgent_35 : decode cX9_nextUrgent 35 = .ok (.ifCond .lt 12, 3) := by decide +kernel
theorem dX9_nextUrgent_38 : decode cX9_nextUrgent 38 = .ok (.aload_n 0, 1) := by decide +kernel
theorem dX9_nextUrgent_39 : decode cX9_nextUrgent 39 = .ok (.iload_n 3, 1) := by decide +kernel
theorem dX9_nextUrgent_40 : decode cX9_nextUrgent 40 = .ok (.iload_n 2, 1) := by decide +kernel
theorem dX9_nextUrgent_41 : decode cX9_nextUrgent 41 = .ok (.invokevirtual 261, 3) := by decide +kernel
theorem dX9_nextUrgent_44 : decode cX9_nextUrgent 44 = .ok (.ifCond .eq 5, 3) := by decide +kernel
theorem dX9_nextUrgent_47 : decode cX9_nextUrgent 47 = .ok (.iload_n 3, 1) := by decide +kernel
theorem dX9_nextUrgent_48 : decode cX9_nextUrgent 48 = .ok (.istore_n 2, 1) := by decide +kernel
theorem dX9_nextUrgent_49 : decode cX9_nextUrgent 49 = .ok (.iinc 3 1, 3) := by decide +kernel
theorem dX9_nextUrgent_52 : decode cX9_nextUrgent 52 = .ok (.goto (-48), 3) := by decide +kernel
theorem dX9_nextUrgent_55 : decode cX9_nextUrgent 55 = .ok (.iload_n 2, 1) := by decide +kernel
theorem dX9_nextUrgent_56 : decode cX9_nextUrgent 56 = .ok (.ireturn, 1) := by decide +kernel
theorem dX9_serveAll_0 : decode cX9_serveAll 0 = .ok (.aload_n 0, 1) := by decide +kernel
theorem dX9_serveAll_1 : decode cX9_serveAll 1 = .ok (.iconst 0, 1) := by decide +kernel
theorem dX9_serveAll_2 : decode cX9_serveAll 2 = .ok (.putfield 87, 3) := by decide +kernel
theorem dX9_serveAll_5 : decode cX9_serveAll 5 = .ok (.aload_n 0, 1) := by decide +kernel
theorem dX9_serveAll_6 : decode cX9_serveAll 6 = .ok (.invokevirtual 223, 3) := by decide +kernel
theorem dX9_serveAll_9 : decode cX9_serveAll 9 = .ok (.iconst 0, 1) := by decide +kernel
theorem dX9_serveAll_10 : decode cX9_serveAll 10 = .ok (.istore_n 1, 1) := by decide +kernel
theorem dX9_serveAll_11 : decode cX9_serveAll 11 = .ok (.aload_n 0, 1) := by decide +kernel
theorem dX9_serveAll_12 : decode cX9_serveAll 12 = .ok (.iconst (-1), 1) := by decide +kernel
theorem dX9_serveAll_13 : decode cX9_serveAll 13 = .ok (.invokevirtual 264, 3) := by decide +kernel
theorem dX9_serveAll_16 : decode cX9_serveAll 16 = .ok (.istore_n 2, 1) := by decide +kernel
theorem dX9_serveAll_17 : decode cX9_serveAll 17 = .ok (.iload_n 2, 1) := by decide +kernel
theorem dX9_serveAll_18 : decode cX9_serveAll 18 = .ok (.ifCond .lt 36, 3) := by decide +kernel
theorem dX9_serveAll_21 : decode cX9_serveAll 21 = .ok (.iload_n 1, 1) := by decide +kernel
theorem dX9_serveAll_22 : decode cX9_serveAll 22 = .ok (.aload_n 0, 1) := by decide +kernel
theorem dX9_serveAll_23 : decode cX9_serveAll 23 = .ok (.iload_n 2, 1) := by decide +kernel
theorem dX9_serveAll_24 : decode cX9_serveAll 24 = .ok (.invokevirtual 255, 3) := by decide +kernel
theorem dX9_serveAll_27 : decode cX9_serveAll 27 = .ok (.ifCond .eq 15, 3) := by decide +kernel
theorem dX9_serveAll_30 : decode cX9_serveAll 30 = .ok (.aload_n 0, 1) := by decide +kernel
theorem dX9_serveAll_31 : decode cX9_serveAll 31 = .ok (.iload_n 2, 1) := by decide +kernel
theorem dX9_serveAll_32 : decode cX9_serveAll 32 = .ok (.invokevirtual 258, 3) := by decide +kernel
theorem dX9_serveAll_35 : decode cX9_serveAll 35 = .ok (.ifCond .lt 7, 3) := by decide +kernel
theorem dX9_serveAll_38 : decode cX9_serveAll 38 = .ok (.iconst 1, 1) := by decide +kernel
theorem dX9_serveAll_39 : decode cX9_serveAll 39 = .ok (.goto 4, 3) := by decide +kernel
theorem dX9_serveAll_42 : decode cX9_serveAll 42 = .ok (.iconst 0, 1) := by decide +kernel
theorem dX9_serveAll_43 : decode cX9_serveAll 43 = .ok (.iadd, 1) := by decide +kernel
theorem dX9_serveAll_44 : decode cX9_serveAll 44 = .ok (.istore_n 1, 1) := by decide +kernel
theorem dX9_serveAll_45 : decode cX9_serveAll 45 = .ok (.aload_n 0, 1) := by decide +kernel
theorem dX9_serveAll_46 : decode cX9_serveAll 46 = .ok (.iload_n 2, 1) := by decide +kernel
theorem dX9_serveAll_47 : decode cX9_serveAll 47 = .ok (.invokevirtual 264, 3) := by decide +kernel
theorem dX9_serveAll_50 : decode cX9_serveAll 50 = .ok (.istore_n 2, 1) := by decide +kernel
theorem dX9_serveAll_51 : decode cX9_serveAll 51 = .ok (.goto (-34), 3) := by decide +kernel
theorem dX9_serveAll_54 : decode cX9_serveAll 54 = .ok (.iload_n 1, 1) := by decide +kernel
theorem dX9_serveAll_55 : decode cX9_serveAll 55 = .ok (.ireturn, 1) := by decide +kernel
theorem dX9_release_0 : decode cX9_release 0 = .ok (.aload_n 0, 1) := by decide +kernel
theorem dX9_release_1 : decode cX9_release 1 = .ok (.iload_n 1, 1) := by decide +kernel
theorem dX9_release_2 : decode cX9_release 2 = .ok (.invokevirtual 229, 3) := by decide +kernel
theorem dX9_release_5 : decode cX9_release 5 = .ok (.ifCond .ne 9, 3) := by decide +kernel
theorem dX9_release_8 : decode cX9_release 8 = .ok (.aload_n 0, 1) := by decide +kernel
theorem dX9_release_9 : decode cX9_release 9 = .ok (.iconst 1, 1) := by decide +kernel
theorem dX9_release_10 : decode cX9_release 10 = .ok (.invokevirtual 220, 3) := by decide +kernel
theorem dX9_release_13 : decode cX9_release 13 = .ok (.ireturn, 1) := by decide +kernel
theorem dX9_release_14 : decode cX9_release 14 = .ok (.aload_n 0, 1) := by decide +kernel
theorem dX9_release_15 : decode cX9_release 15 = .ok (.getfield 31, 3) := by decide +kernel
theorem dX9_release_18 : decode cX9_release 18 = .ok (.iload_n 1, 1) := by decide +kernel
theorem dX9_release_19 : decode cX9_release 19 = .ok (.iaload, 1) := by decide +kernel
theorem dX9_release_20 : decode cX9_release 20 = .ok (.iconst 1, 1) := by decide +kernel
theorem dX9_release_21 : decode cX9_release 21 = .ok (.if_icmp .ne 16, 3) := by decide +kernel
theorem dX9_release_24 : decode cX9_release 24 = .ok (.aload_n 0, 1) := by decide +kernel
theorem dX9_release_25 : decode cX9_release 25 = .ok (.getfield 37, 3) := by decide +kernel
theorem dX9_release_28 : decode cX9_release 28 = .ok (.iload_n 1, 1) := by decide +kernel
theorem dX9_release_29 : decode cX9_release 29 = .ok (.iaload, 1) := by decide +kernel
theorem dX9_release_30 : decode cX9_release 30 = .ok (.aload_n 0, 1) := by decide +kernel
theorem dX9_release_31 : decode cX9_release 31 = .ok (.getfield 155, 3) := by decide +kernel
theorem dX9_release_34 : decode cX9_release 34 = .ok (.if_icmp .gt 11, 3) := by decide +kernel
theorem dX9_release_37 : decode cX9_release 37 = .ok (.aload_n 0, 1) := by decide +kernel
theorem dX9_release_38 : decode cX9_release 38 = .ok (.bipush 13, 2) := by decide +kernel
theorem dX9_release_40 : decode cX9_release 40 = .ok (.iconst 2, 1) := by decide +kernel
theorem dX9_release_41 : decode cX9_release 41 = .ok (.invokevirtual 248, 3) := by decide +kernel
theorem dX9_release_44 : decode cX9_release 44 = .ok (.ireturn, 1) := by decide +kernel
theorem dX9_release_45 : decode cX9_release 45 = .ok (.aload_n 0, 1) := by decide +kernel
theorem dX9_release_46 : decode cX9_release 46 = .ok (.aload_n 0, 1) := by decide +kernel
theorem dX9_release_47 : decode cX9_release 47 = .ok (.getfield 34, 3) := by decide +kernel
theorem dX9_release_50 : decode cX9_release 50 = .ok (.iload_n 1, 1) := by decide +kernel
theorem dX9_release_51 : decode cX9_release 51 = .ok (.iaload, 1) := by decide +kernel
theorem dX9_release_52 : decode cX9_release 52 = .ok (.invokevirtual 164, 3) := by decide +kernel
theorem dX9_release_55 : decode cX9_release 55 = .ok (.aload_n 0, 1) := by decide +kernel
theorem dX9_release_56 : decode cX9_release 56 = .ok (.getfield 118, 3) := by decide +kernel
theorem dX9_release_59 : decode cX9_release 59 = .ok (.aload_n 0, 1) := by decide +kernel
theorem dX9_release_60 : decode cX9_release 60 = .ok (.iload_n 1, 1) := by decide +kernel
theorem dX9_release_61 : decode cX9_release 61 = .ok (.invokevirtual 127, 3) := by decide +kernel
theorem dX9_release_64 : decode cX9_release 64 = .ok (.if_icmp .eq 11, 3) := by decide +kernel
theorem dX9_release_67 : decode cX9_release 67 = .ok (.aload_n 0, 1) := by decide +kernel
theorem dX9_release_68 : decode cX9_release 68 = .ok (.bipush 14, 2) := by decide +kernel
theorem dX9_release_70 : decode cX9_release 70 = .ok (.iconst 2, 1) := by decide +kernel
theorem dX9_release_71 : decode cX9_release 71 = .ok (.invokevirtual 248, 3) := by decide +kernel
theorem dX9_release_74 : decode cX9_release 74 = .ok (.ireturn, 1) := by decide +kernel
theorem dX9_release_75 : decode cX9_release 75 = .ok (.aload_n 0, 1) := by decide +kernel
theorem dX9_release_76 : decode cX9_release 76 = .ok (.iconst 0, 1) := by decide +kernel
theorem dX9_release_77 : decode cX9_release 77 = .ok (.putfield 87, 3) := by decide +kernel
theorem dX9_release_80 : decode cX9_release 80 = .ok (.aload_n 0, 1) := by decide +kernel
theorem dX9_release_81 : decode cX9_release 81 = .ok (.invokevirtual 223, 3) := by decide +kernel
theorem dX9_release_84 : decode cX9_release 84 = .ok (.aload_n 0, 1) := by decide +kernel
theorem dX9_release_85 : decode cX9_release 85 = .ok (.getfield 31, 3) := by decide +kernel
theorem dX9_release_88 : decode cX9_release 88 = .ok (.iload_n 1, 1) := by decide +kernel
theorem dX9_release_89 : decode cX9_release 89 = .ok (.iconst 0, 1) := by decide +kernel
theorem dX9_release_90 : decode cX9_release 90 = .ok (.iastore, 1) := by decide +kernel
theorem dX9_release_91 : decode cX9_release 91 = .ok (.aload_n 0, 1) := by decide +kernel
theorem dX9_release_92 : decode cX9_release 92 = .ok (.getfield 34, 3) := by decide +kernel
theorem dX9_release_95 : decode cX9_release 95 = .ok (.iload_n 1, 1) := by decide +kernel
theorem dX9_release_96 : decode cX9_release 96 = .ok (.iaload, 1) := by decide +kernel
theorem dX9_release_97 : decode cX9_release 97 = .ok (.ireturn, 1) := by decide +kernel
theorem dX9_putOff_0 : decode cX9_putOff 0 = .ok (.aload_n 0, 1) := by decide +kernel
theorem dX9_putOff_1 : decode cX9_putOff 1 = .ok (.iload_n 1, 1) := by decide +kernel
theorem dX9_putOff_2 : decode cX9_putOff 2 = .ok (.invokevirtual 229, 3) := by decide +kernel
theorem dX9_putOff_5 : decode cX9_putOff 5 = .ok (.ifCond .ne 9, 3) := by decide +kernel
theorem dX9_putOff_8 : decode cX9_putOff 8 = .ok (.aload_n 0, 1) := by decide +kernel
theorem dX9_putOff_9 : decode cX9_putOff 9 = .ok (.iconst 1, 1) := by decide +kernel
theorem dX9_putOff_10 : decode cX9_putOff 10 = .ok (.invokevirtual 220, 3) := by decide +kernel
theorem dX9_putOff_13 : decode cX9_putOff 13 = .ok (.ireturn, 1) := by decide +kernel
theorem dX9_putOff_14 : decode cX9_putOff 14 = .ok (.iload_n 2, 1) := by decide +kernel
theorem dX9_putOff_15 : decode cX9_putOff 15 = .ok (.iconst 1, 1) := by decide +kernel
theorem dX9_putOff_16 : decode cX9_putOff 16 = .ok (.bipush 48, 2) := by decide +kernel
theorem dX9_putOff_18 : decode cX9_putOff 18 = .ok (.invokestatic 90, 3) := by decide +kernel
theorem dX9_putOff_21 : decode cX9_putOff 21 = .ok (.ifCond .ne 9, 3) := by decide +kernel
theorem dX9_putOff_24 : decode cX9_putOff 24 = .ok (.aload_n 0, 1) := by decide +kernel
theorem dX9_putOff_25 : decode cX9_putOff 25 = .ok (.iconst 2, 1) := by decide +kernel
theorem dX9_putOff_26 : decode cX9_putOff 26 = .ok (.invokevirtual 220, 3) := by decide +kernel
theorem dX9_putOff_29 : decode cX9_putOff 29 = .ok (.ireturn, 1) := by decide +kernel
theorem dX9_putOff_30 : decode cX9_putOff 30 = .ok (.aload_n 0, 1) := by decide +kernel
theorem dX9_putOff_31 : decode cX9_putOff 31 = .ok (.getfield 31, 3) := by decide +kernel
theorem dX9_putOff_34 : decode cX9_putOff 34 = .ok (.iload_n 1, 1) := by decide +kernel
theorem dX9_putOff_35 : decode cX9_putOff 35 = .ok (.iaload, 1) := by decide +kernel
theorem dX9_putOff_36 : decode cX9_putOff 36 = .ok (.ifCond .eq 10, 3) := by decide +kernel
theorem dX9_putOff_39 : decode cX9_putOff 39 = .ok (.aload_n 0, 1) := by decide +kernel
theorem dX9_putOff_40 : decode cX9_putOff 40 = .ok (.iconst 1, 1) := by decide +kernel
theorem dX9_putOff_41 : decode cX9_putOff 41 = .ok (.iconst 3, 1) := by decide +kernel
theorem dX9_putOff_42 : decode cX9_putOff 42 = .ok (.invokevirtual 248, 3) := by decide +kernel
theorem dX9_putOff_45 : decode cX9_putOff 45 = .ok (.ireturn, 1) := by decide +kernel
theorem dX9_putOff_46 : decode cX9_putOff 46 = .ok (.aload_n 0, 1) := by decide +kernel
theorem dX9_putOff_47 : decode cX9_putOff 47 = .ok (.getfield 40, 3) := by decide +kernel
theorem dX9_putOff_50 : decode cX9_putOff 50 = .ok (.iload_n 1, 1) := by decide +kernel
theorem dX9_putOff_51 : decode cX9_putOff 51 = .ok (.iaload, 1) := by decide +kernel
theorem dX9_putOff_52 : decode cX9_putOff 52 = .ok (.iconst 2, 1) := by decide +kernel
theorem dX9_putOff_53 : decode cX9_putOff 53 = .ok (.if_icmp .ne 11, 3) := by decide +kernel
theorem dX9_putOff_56 : decode cX9_putOff 56 = .ok (.aload_n 0, 1) := by decide +kernel
theorem dX9_putOff_57 : decode cX9_putOff 57 = .ok (.bipush 15, 2) := by decide +kernel
theorem dX9_putOff_59 : decode cX9_putOff 59 = .ok (.iconst 3, 1) := by decide +kernel
theorem dX9_putOff_60 : decode cX9_putOff 60 = .ok (.invokevirtual 248, 3) := by decide +kernel
theorem dX9_putOff_63 : decode cX9_putOff 63 = .ok (.ireturn, 1) := by decide +kernel
theorem dX9_putOff_64 : decode cX9_putOff 64 = .ok (.aload_n 0, 1) := by decide +kernel
theorem dX9_putOff_65 : decode cX9_putOff 65 = .ok (.iconst 0, 1) := by decide +kernel
theorem dX9_putOff_66 : decode cX9_putOff 66 = .ok (.putfield 87, 3) := by decide +kernel
theorem dX9_putOff_69 : decode cX9_putOff 69 = .ok (.aload_n 0, 1) := by decide +kernel
theorem dX9_putOff_70 : decode cX9_putOff 70 = .ok (.invokevirtual 223, 3) := by decide +kernel
theorem dX9_putOff_73 : decode cX9_putOff 73 = .ok (.aload_n 0, 1) := by decide +kernel
theorem dX9_putOff_74 : decode cX9_putOff 74 = .ok (.getfield 28, 3) := by decide +kernel
theorem dX9_putOff_77 : decode cX9_putOff 77 = .ok (.iload_n 1, 1) := by decide +kernel
theorem dX9_putOff_78 : decode cX9_putOff 78 = .ok (.aload_n 0, 1) := by decide +kernel
theorem dX9_putOff_79 : decode cX9_putOff 79 = .ok (.getfield 28, 3) := by decide +kernel
theorem dX9_putOff_82 : decode cX9_putOff 82 = .ok (.iload_n 1, 1) := by decide +kernel
theorem dX9_putOff_83 : decode cX9_putOff 83 = .ok (.iaload, 1) := by decide +kernel
theorem dX9_putOff_84 : decode cX9_putOff 84 = .ok (.iload_n 2, 1) := by decide +kernel
theorem dX9_putOff_85 : decode cX9_putOff 85 = .ok (.iadd, 1) := by decide +kernel
theorem dX9_putOff_86 : decode cX9_putOff 86 = .ok (.sipush 900, 3) := by decide +kernel
theorem dX9_putOff_89 : decode cX9_putOff 89 = .ok (.if_icmp .le 9, 3) := by decide +kernel
theorem dX9_putOff_92 : decode cX9_putOff 92 = .ok (.sipush 900, 3) := by decide +kernel
theorem dX9_putOff_95 : decode cX9_putOff 95 = .ok (.goto 11, 3) := by decide +kernel
theorem dX9_putOff_98 : decode cX9_putOff 98 = .ok (.aload_n 0, 1) := by decide +kernel
theorem dX9_putOff_99 : decode cX9_putOff 99 = .ok (.getfield 28, 3) := by decide +kernel
theorem dX9_putOff_102 : decode cX9_putOff 102 = .ok (.iload_n 1, 1) := by decide +kernel
theorem dX9_putOff_103 : decode cX9_putOff 103 = .ok (.iaload, 1) := by decide +kernel
theorem dX9_putOff_104 : decode cX9_putOff 104 = .ok (.iload_n 2, 1) := by decide +kernel
theorem dX9_putOff_105 : decode cX9_putOff 105 = .ok (.iadd, 1) := by decide +kernel
theorem dX9_putOff_106 : decode cX9_putOff 106 = .ok (.iastore, 1) := by decide +kernel
theorem dX9_putOff_107 : decode cX9_putOff 107 = .ok (.aload_n 0, 1) := by decide +kernel
theorem dX9_putOff_108 : decode cX9_putOff 108 = .ok (.getfield 40, 3) := by decide +kernel
theorem dX9_putOff_111 : decode cX9_putOff 111 = .ok (.iload_n 1, 1) := by decide +kernel
theorem dX9_putOff_112 : decode cX9_putOff 112 = .ok (.dup2, 1) := by decide +kernel
theorem dX9_putOff_113 : decode cX9_putOff 113 = .ok (.iaload, 1) := by decide +kernel
theorem dX9_putOff_114 : decode cX9_putOff 114 = .ok (.iconst 1, 1) := by decide +kernel
theorem dX9_putOff_115 : decode cX9_putOff 115 = .ok (.iadd, 1) := by decide +kernel
theorem dX9_putOff_116 : decode cX9_putOff 116 = .ok (.iastore, 1) := by decide +kernel
theorem dX9_putOff_117 : decode cX9_putOff 117 = .ok (.aload_n 0, 1) := by decide +kernel
theorem dX9_putOff_118 : decode cX9_putOff 118 = .ok (.getfield 28, 3) := by decide +kernel
theorem dX9_putOff_121 : decode cX9_putOff 121 = .ok (.iload_n 1, 1) := by decide +kernel
theorem dX9_putOff_122 : decode cX9_putOff 122 = .ok (.iaload, 1) := by decide +kernel
theorem dX9_putOff_123 : decode cX9_putOff 123 = .ok (.ireturn, 1) := by decide +kernel
theorem dX9_urgent_0 : decode cX9_urgent 0 = .ok (.iload_n 1, 1) := by decide +kernel
theorem dX9_urgent_1 : decode cX9_urgent 1 = .ok (.ifCond .ge 9, 3) := by decide +kernel
theorem dX9_urgent_4 : decode cX9_urgent 4 = .ok (.aload_n 0, 1) := by decide +kernel
theorem dX9_urgent_5 : decode cX9_urgent 5 = .ok (.iconst 1, 1) := by decide +kernel
theorem dX9_urgent_6 : decode cX9_urgent 6 = .ok (.invokevirtual 220, 3) := by decide +kernel
theorem dX9_urgent_9 : decode cX9_urgent 9 = .ok (.ireturn, 1) := by decide +kernel
theorem dX9_urgent_10 : decode cX9_urgent 10 = .ok (.aload_n 0, 1) := by decide +kernel
theorem dX9_urgent_11 : decode cX9_urgent 11 = .ok (.iconst (-1), 1) := by decide +kernel
theorem dX9_urgent_12 : decode cX9_urgent 12 = .ok (.invokevirtual 264, 3) := by decide +kernel
theorem dX9_urgent_15 : decode cX9_urgent 15 = .ok (.istore_n 2, 1) := by decide +kernel
theorem dX9_urgent_16 : decode cX9_urgent 16 = .ok (.iconst 0, 1) := by decide +kernel
theorem dX9_urgent_17 : decode cX9_urgent 17 = .ok (.istore_n 3, 1) := by decide +kernel
theorem dX9_urgent_18 : decode cX9_urgent 18 = .ok (.iload_n 3, 1) := by decide +kernel
theorem dX9_urgent_19 : decode cX9_urgent 19 = .ok (.iload_n 1, 1) := by decide +kernel
theorem dX9_urgent_20 : decode cX9_urgent 20 = .ok (.if_icmp .ge 19, 3) := by decide +kernel
theorem dX9_urgent_23 : decode cX9_urgent 23 = .ok (.iload_n 2, 1) := by decide +kernel
theorem dX9_urgent_24 : decode cX9_urgent 24 = .ok (.ifCond .lt 15, 3) := by decide +kernel
theorem dX9_urgent_27 : decode cX9_urgent 27 = .ok (.aload_n 0, 1) := by decide +kernel
theorem dX9_urgent_28 : decode cX9_urgent 28 = .ok (.iload_n 2, 1) := by decide +kernel
theorem dX9_urgent_29 : decode cX9_urgent 29 = .ok (.invokevirtual 264, 3) := by decide +kernel
theorem dX9_urgent_32 : decode cX9_urgent 32 = .ok (.istore_n 2, 1) := by decide +kernel
theorem dX9_urgent_33 : decode cX9_urgent 33 = .ok (.iinc 3 1, 3) := by decide +kernel
theorem dX9_urgent_36 : decode cX9_urgent 36 = .ok (.goto (-18), 3) := by decide +kernel
theorem dX9_urgent_39 : decode cX9_urgent 39 = .ok (.iload_n 2, 1) := by decide +kernel
theorem dX9_urgent_40 : decode cX9_urgent 40 = .ok (.ifCond .ge 9, 3) := by decide +kernel
theorem dX9_urgent_43 : decode cX9_urgent 43 = .ok (.aload_n 0, 1) := by decide +kernel
theorem dX9_urgent_44 : decode cX9_urgent 44 = .ok (.iconst 1, 1) := by decide +kernel
theorem dX9_urgent_45 : decode cX9_urgent 45 = .ok (.invokevirtual 220, 3) := by decide +kernel
theorem dX9_urgent_48 : decode cX9_urgent 48 = .ok (.ireturn, 1) := by decide +kernel
theorem dX9_urgent_49 : decode cX9_urgent 49 = .ok (.aload_n 0, 1) := by decide +kernel
theorem dX9_urgent_50 : decode cX9_urgent 50 = .ok (.iconst 0, 1) := by decide +kernel
theorem dX9_urgent_51 : decode cX9_urgent 51 = .ok (.putfield 87, 3) := by decide +kernel
theorem dX9_urgent_54 : decode cX9_urgent 54 = .ok (.iload_n 2, 1) := by decide +kernel
theorem dX9_urgent_55 : decode cX9_urgent 55 = .ok (.ireturn, 1) := by decide +kernel
theorem dX9_tripHours_0 : decode cX9_tripHours 0 = .ok (.iconst 0, 1) := by decide +kernel
theorem dX9_tripHours_1 : decode cX9_tripHours 1 = .ok (.istore_n 2, 1) := by decide +kernel
theorem dX9_tripHours_2 : decode cX9_tripHours 2 = .ok (.iconst 0, 1) := by decide +kernel
theorem dX9_tripHours_3 : decode cX9_tripHours 3 = .ok (.istore_n 3, 1) := by decide +kernel
theorem dX9_tripHours_4 : decode cX9_tripHours 4 = .ok (.iload_n 3, 1) := by decide +kernel
theorem dX9_tripHours_5 : decode cX9_tripHours 5 = .ok (.aload_n 0, 1) := by decide +kernel
theorem dX9_tripHours_6 : decode cX9_tripHours 6 = .ok (.getfield 100, 3) := by decide +kernel
theorem dX9_tripHours_9 : decode cX9_tripHours 9 = .ok (.if_icmp .ge 30, 3) := by decide +kernel
theorem dX9_tripHours_12 : decode cX9_tripHours 12 = .ok (.iload_n 2, 1) := by decide +kernel
theorem dX9_tripHours_13 : decode cX9_tripHours 13 = .ok (.aload_n 0, 1) := by decide +kernel
theorem dX9_tripHours_14 : decode cX9_tripHours 14 = .ok (.iload_n 3, 1) := by decide +kernel
theorem dX9_tripHours_15 : decode cX9_tripHours 15 = .ok (.iload_n 1, 1) := by decide +kernel
theorem dX9_tripHours_16 : decode cX9_tripHours 16 = .ok (.invokevirtual 124, 3) := by decide +kernel
theorem dX9_tripHours_19 : decode cX9_tripHours 19 = .ok (.ifCond .eq 11, 3) := by decide +kernel
theorem dX9_tripHours_22 : decode cX9_tripHours 22 = .ok (.aload_n 0, 1) := by decide +kernel
theorem dX9_tripHours_23 : decode cX9_tripHours 23 = .ok (.iload_n 3, 1) := by decide +kernel
theorem dX9_tripHours_24 : decode cX9_tripHours 24 = .ok (.invokevirtual 103, 3) := by decide +kernel
theorem dX9_tripHours_27 : decode cX9_tripHours 27 = .ok (.goto 4, 3) := by decide +kernel
theorem dX9_tripHours_30 : decode cX9_tripHours 30 = .ok (.iconst 0, 1) := by decide +kernel
theorem dX9_tripHours_31 : decode cX9_tripHours 31 = .ok (.iadd, 1) := by decide +kernel
theorem dX9_tripHours_32 : decode cX9_tripHours 32 = .ok (.istore_n 2, 1) := by decide +kernel
theorem dX9_tripHours_33 : decode cX9_tripHours 33 = .ok (.iinc 3 1, 3) := by decide +kernel
theorem dX9_tripHours_36 : decode cX9_tripHours 36 = .ok (.goto (-32), 3) := by decide +kernel
theorem dX9_tripHours_39 : decode cX9_tripHours 39 = .ok (.iload_n 2, 1) := by decide +kernel
theorem dX9_tripHours_40 : decode cX9_tripHours 40 = .ok (.ireturn, 1) := by decide +kernel
theorem dX9_trips_0 : decode cX9_trips 0 = .ok (.iconst 0, 1) := by decide +kernel
theorem dX9_trips_1 : decode cX9_trips 1 = .ok (.istore_n 2, 1) := by decide +kernel
theorem dX9_trips_2 : decode cX9_trips 2 = .ok (.iconst 0, 1) := by decide +kernel
theorem dX9_trips_3 : decode cX9_trips 3 = .ok (.istore_n 3, 1) := by decide +kernel
theorem dX9_trips_4 : decode cX9_trips 4 = .ok (.iload_n 3, 1) := by decide +kernel
theorem dX9_trips_5 : decode cX9_trips 5 = .ok (.aload_n 0, 1) := by decide +kernel
theorem dX9_trips_6 : decode cX9_trips 6 = .ok (.getfield 100, 3) := by decide +kernel
theorem dX9_trips_9 : decode cX9_trips 9 = .ok (.if_icmp .ge 26, 3) := by decide +kernel
theorem dX9_trips_12 : decode cX9_trips 12 = .ok (.iload_n 2, 1) := by decide +kernel
theorem dX9_trips_13 : decode cX9_trips 13 = .ok (.aload_n 0, 1) := by decide +kernel
theorem dX9_trips_14 : decode cX9_trips 14 = .ok (.iload_n 3, 1) := by decide +kernel
theorem dX9_trips_15 : decode cX9_trips 15 = .ok (.iload_n 1, 1) := by decide +kernel
theorem dX9_trips_16 : decode cX9_trips 16 = .ok (.invokevirtual 124, 3) := by decide +kernel
theorem dX9_trips_19 : decode cX9_trips 19 = .ok (.ifCond .eq 7, 3) := by decide +kernel
theorem dX9_trips_22 : decode cX9_trips 22 = .ok (.iconst 1, 1) := by decide +kernel
theorem dX9_trips_23 : decode cX9_trips 23 = .ok (.goto 4, 3) := by decide +kernel
theorem dX9_trips_26 : decode cX9_trips 26 = .ok (.iconst 0, 1) := by decide +kernel
theorem dX9_trips_27 : decode cX9_trips 27 = .ok (.iadd, 1) := by decide +kernel
theorem dX9_trips_28 : decode cX9_trips 28 = .ok (.istore_n 2, 1) := by decide +kernel
theorem dX9_trips_29 : decode cX9_trips 29 = .ok (.iinc 3 1, 3) := by decide +kernel
theorem dX9_trips_32 : decode cX9_trips 32 = .ok (.goto (-28), 3) := by decide +kernel
theorem dX9_trips_35 : decode cX9_trips 35 = .ok (.iload_n 2, 1) := by decide +kernel
theorem dX9_trips_36 : decode cX9_trips 36 = .ok (.ireturn, 1) := by decide +kernel
theorem dX9_rides_0 : decode cX9_rides 0 = .ok (.iconst 0, 1) := by decide +kernel
theorem dX9_rides_1 : decode cX9_rides 1 = .ok (.istore_n 2, 1) := by decide +kernel
theorem dX9_rides_2 : decode cX9_rides 2 = .ok (.iconst 0, 1) := by decide +kernel
theorem dX9_rides_3 : decode cX9_rides 3 = .ok (.istore_n 3, 1) := by decide +kernel
theorem dX9_rides_4 : decode cX9_rides 4 = .ok (.iload_n 3, 1) := by decide +kernel
theorem dX9_rides_5 : decode cX9_rides 5 = .ok (.aload_n 0, 1) := by decide +kernel
theorem dX9_rides_6 : decode cX9_rides 6 = .ok (.getfield 137, 3) := by decide +kernel
theorem dX9_rides_9 : decode cX9_rides 9 = .ok (.if_icmp .ge 30, 3) := by decide +kernel
theorem dX9_rides_12 : decode cX9_rides 12 = .ok (.iload_n 2, 1) := by decide +kernel
theorem dX9_rides_13 : decode cX9_rides 13 = .ok (.aload_n 0, 1) := by decide +kernel
theorem dX9_rides_14 : decode cX9_rides 14 = .ok (.getfield 61, 3) := by decide +kernel
theorem dX9_rides_17 : decode cX9_rides 17 = .ok (.iload_n 3, 1) := by decide +kernel
theorem dX9_rides_18 : decode cX9_rides 18 = .ok (.iaload, 1) := by decide +kernel
theorem dX9_rides_19 : decode cX9_rides 19 = .ok (.iload_n 1, 1) := by decide +kernel
theorem dX9_rides_20 : decode cX9_rides 20 = .ok (.invokestatic 140, 3) := by decide +kernel
theorem dX9_rides_23 : decode cX9_rides 23 = .ok (.ifCond .eq 7, 3) := by decide +kernel
theorem dX9_rides_26 : decode cX9_rides 26 = .ok (.iconst 1, 1) := by decide +kernel
theorem dX9_rides_27 : decode cX9_rides 27 = .ok (.goto 4, 3) := by decide +kernel
theorem dX9_rides_30 : decode cX9_rides 30 = .ok (.iconst 0, 1) := by decide +kernel
theorem dX9_rides_31 : decode cX9_rides 31 = .ok (.iadd, 1) := by decide +kernel
theorem dX9_rides_32 : decode cX9_rides 32 = .ok (.istore_n 2, 1) := by decide +kernel
theorem dX9_rides_33 : decode cX9_rides 33 = .ok (.iinc 3 1, 3) := by decide +kernel
theorem dX9_rides_36 : decode cX9_rides 36 = .ok (.goto (-32), 3) := by decide +kernel
theorem dX9_rides_39 : decode cX9_rides 39 = .ok (.iload_n 2, 1) := by decide +kernel
theorem dX9_rides_40 : decode cX9_rides 40 = .ok (.ireturn, 1) := by decide +kernel
theorem dX9_freeOf_0 : decode cX9_freeOf 0 = .ok (.aload_n 0, 1) := by decide +kernel
theorem dX9_freeOf_1 : decode cX9_freeOf 1 = .ok (.iload_n 1, 1) := by decide +kernel
theorem dX9_freeOf_2 : decode cX9_freeOf 2 = .ok (.invokevirtual 164, 3) := by decide +kernel
theorem dX9_freeOf_5 : decode cX9_freeOf 5 = .ok (.aload_n 0, 1) := by decide +kernel
theorem dX9_freeOf_6 : decode cX9_freeOf 6 = .ok (.getfield 118, 3) := by decide +kernel
theorem dX9_freeOf_9 : decode cX9_freeOf 9 = .ok (.ireturn, 1) := by decide +kernel
theorem dX9_pilot_0 : decode cX9_pilot 0 = .ok (.aload_n 0, 1) := by decide +kernel
theorem dX9_pilot_1 : decode cX9_pilot 1 = .ok (.iload_n 1, 1) := by decide +kernel
theorem dX9_pilot_2 : decode cX9_pilot 2 = .ok (.invokevirtual 245, 3) := by decide +kernel
theorem dX9_pilot_5 : decode cX9_pilot 5 = .ok (.ifCond .ne 9, 3) := by decide +kernel
theorem dX9_pilot_8 : decode cX9_pilot 8 = .ok (.aload_n 0, 1) := by decide +kernel
theorem dX9_pilot_9 : decode cX9_pilot 9 = .ok (.iconst 1, 1) := by decide +kernel
theorem dX9_pilot_10 : decode cX9_pilot 10 = .ok (.invokevirtual 220, 3) := by decide +kernel
theorem dX9_pilot_13 : decode cX9_pilot 13 = .ok (.ireturn, 1) := by decide +kernel
theorem dX9_pilot_14 : decode cX9_pilot 14 = .ok (.iload_n 2, 1) := by decide +kernel
theorem dX9_pilot_15 : decode cX9_pilot 15 = .ok (.iconst 0, 1) := by decide +kernel
theorem dX9_pilot_16 : decode cX9_pilot 16 = .ok (.bipush 6, 2) := by decide +kernel
theorem dX9_pilot_18 : decode cX9_pilot 18 = .ok (.invokestatic 90, 3) := by decide +kernel
theorem dX9_pilot_21 : decode cX9_pilot 21 = .ok (.ifCond .ne 9, 3) := by decide +kernel
theorem dX9_pilot_24 : decode cX9_pilot 24 = .ok (.aload_n 0, 1) := by decide +kernel
theorem dX9_pilot_25 : decode cX9_pilot 25 = .ok (.iconst 2, 1) := by decide +kernel
theorem dX9_pilot_26 : decode cX9_pilot 26 = .ok (.invokevirtual 220, 3) := by decide +kernel
theorem dX9_pilot_29 : decode cX9_pilot 29 = .ok (.ireturn, 1) := by decide +kernel
theorem dX9_pilot_30 : decode cX9_pilot 30 = .ok (.aload_n 0, 1) := by decide +kernel
theorem dX9_pilot_31 : decode cX9_pilot 31 = .ok (.iconst 0, 1) := by decide +kernel
theorem dX9_pilot_32 : decode cX9_pilot 32 = .ok (.putfield 87, 3) := by decide +kernel
theorem dX9_pilot_35 : decode cX9_pilot 35 = .ok (.iload_n 2, 1) := by decide +kernel
theorem dX9_pilot_36 : decode cX9_pilot 36 = .ok (.tableswitch 85 0 5 #[40, 47, 54, 61, 73, 79], 40) := by decide +kernel
theorem dX9_pilot_76 : decode cX9_pilot 76 = .ok (.aload_n 0, 1) := by decide +kernel
theorem dX9_pilot_77 : decode cX9_pilot 77 = .ok (.getfield 43, 3) := by decide +kernel
theorem dX9_pilot_80 : decode cX9_pilot 80 = .ok (.iload_n 1, 1) := by decide +kernel
theorem dX9_pilot_81 : decode cX9_pilot 81 = .ok (.iaload, 1) := by decide +kernel
theorem dX9_pilot_82 : decode cX9_pilot 82 = .ok (.ireturn, 1) := by decide +kernel
theorem dX9_pilot_83 : decode cX9_pilot 83 = .ok (.aload_n 0, 1) := by decide +kernel
theorem dX9_pilot_84 : decode cX9_pilot 84 = .ok (.getfield 46, 3) := by decide +kernel
theorem dX9_pilot_87 : decode cX9_pilot 87 = .ok (.iload_n 1, 1) := by decide +kernel
theorem dX9_pilot_88 : decode cX9_pilot 88 = .ok (.iaload, 1) := by decide +kernel
theorem dX9_pilot_89 : decode cX9_pilot 89 = .ok (.ireturn, 1) := by decide +kernel
theorem dX9_pilot_90 : decode cX9_pilot 90 = .ok (.aload_n 0, 1) := by decide +kernel
theorem dX9_pilot_91 : decode cX9_pilot 91 = .ok (.getfield 49, 3) := by decide +kernel
theorem dX9_pilot_94 : decode cX9_pilot 94 = .ok (.iload_n 1, 1) := by decide +kernel
theorem dX9_pilot_95 : decode cX9_pilot 95 = .ok (.iaload, 1) := by decide +kernel
theorem dX9_pilot_96 : decode cX9_pilot 96 = .ok (.ireturn, 1) := by decide +kernel
theorem dX9_pilot_97 : decode cX9_pilot 97 = .ok (.aload_n 0, 1) := by decide +kernel
theorem dX9_pilot_98 : decode cX9_pilot 98 = .ok (.iload_n 1, 1) := by decide +kernel
theorem dX9_pilot_99 : decode cX9_pilot 99 = .ok (.invokevirtual 267, 3) := by decide +kernel
theorem dX9_pilot_102 : decode cX9_pilot 102 = .ok (.aload_n 0, 1) := by decide +kernel
theorem dX9_pilot_103 : decode cX9_pilot 103 = .ok (.iload_n 1, 1) := by decide +kernel
theorem dX9_pilot_104 : decode cX9_pilot 104 = .ok (.invokevirtual 270, 3) := by decide +kernel
theorem dX9_pilot_107 : decode cX9_pilot 107 = .ok (.iadd, 1) := by decide +kernel
theorem dX9_pilot_108 : decode cX9_pilot 108 = .ok (.ireturn, 1) := by decide +kernel
theorem dX9_pilot_109 : decode cX9_pilot 109 = .ok (.aload_n 0, 1) := by decide +kernel
theorem dX9_pilot_110 : decode cX9_pilot 110 = .ok (.iload_n 1, 1) := by decide +kernel
theorem dX9_pilot_111 : decode cX9_pilot 111 = .ok (.invokevirtual 273, 3) := by decide +kernel
theorem dX9_pilot_114 : decode cX9_pilot 114 = .ok (.ireturn, 1) := by decide +kernel
theorem dX9_pilot_115 : decode cX9_pilot 115 = .ok (.aload_n 0, 1) := by decide +kernel
theorem dX9_pilot_116 : decode cX9_pilot 116 = .ok (.iload_n 1, 1) := by decide +kernel
theorem dX9_pilot_117 : decode cX9_pilot 117 = .ok (.invokevirtual 161, 3) := by decide +kernel
theorem dX9_pilot_120 : decode cX9_pilot 120 = .ok (.ireturn, 1) := by decide +kernel
theorem dX9_pilot_121 : decode cX9_pilot 121 = .ok (.aload_n 0, 1) := by decide +kernel
theorem dX9_pilot_122 : decode cX9_pilot 122 = .ok (.iload_n 1, 1) := by decide +kernel
theorem dX9_pilot_123 : decode cX9_pilot 123 = .ok (.invokevirtual 276, 3) := by decide +kernel
theorem dX9_pilot_126 : decode cX9_pilot 126 = .ok (.ireturn, 1) := by decide +kernel
theorem dX9_nextOf_0 : decode cX9_nextOf 0 = .ok (.iconst (-1), 1) := by decide +kernel
theorem dX9_nextOf_1 : decode cX9_nextOf 1 = .ok (.istore_n 3, 1) := by decide +kernel
theorem dX9_nextOf_2 : decode cX9_nextOf 2 = .ok (.iconst 0, 1) := by decide +kernel
theorem dX9_nextOf_3 : decode cX9_nextOf 3 = .ok (.istore 4, 2) := by decide +kernel
theorem dX9_nextOf_5 : decode cX9_nextOf 5 = .ok (.iconst 0, 1) := by decide +kernel
theorem dX9_nextOf_6 : decode cX9_nextOf 6 = .ok (.istore 5, 2) := by decide +kernel
theorem dX9_nextOf_8 : decode cX9_nextOf 8 = .ok (.iload 5, 2) := by decide +kernel
theorem dX9_nextOf_10 : decode cX9_nextOf 10 = .ok (.aload_n 0, 1) := by decide +kernel
theorem dX9_nextOf_11 : decode cX9_nextOf 11 = .ok (.getfield 100, 3) := by decide +kernel
theorem dX9_nextOf_14 : decode cX9_nextOf 14 = .ok (.if_icmp .ge 61, 3) := by decide +kernel
theorem dX9_nextOf_17 : decode cX9_nextOf 17 = .ok (.aload_n 0, 1) := by decide +kernel
theorem dX9_nextOf_18 : decode cX9_nextOf 18 = .ok (.iload 5, 2) := by decide +kernel
theorem dX9_nextOf_20 : decode cX9_nextOf 20 = .ok (.iload_n 1, 1) := by decide +kernel
theorem dX9_nextOf_21 : decode cX9_nextOf 21 = .ok (.invokevirtual 124, 3) := by decide +kernel
theorem dX9_nextOf_24 : decode cX9_nextOf 24 = .ok (.ifCond .eq 45, 3) := by decide +kernel
theorem dX9_nextOf_27 : decode cX9_nextOf 27 = .ok (.aload_n 0, 1) := by decide +kernel
theorem dX9_nextOf_28 : decode cX9_nextOf 28 = .ok (.getfield 37, 3) := by decide +kernel
theorem dX9_nextOf_31 : decode cX9_nextOf 31 = .ok (.iload 5, 2) := by decide +kernel
theorem dX9_nextOf_33 : decode cX9_nextOf 33 = .ok (.iaload, 1) := by decide +kernel
theorem dX9_nextOf_34 : decode cX9_nextOf 34 = .ok (.iload_n 2, 1) := by decide +kernel
theorem dX9_nextOf_35 : decode cX9_nextOf 35 = .ok (.if_icmp .lt 34, 3) := by decide +kernel
theorem dX9_nextOf_38 : decode cX9_nextOf 38 = .ok (.iload_n 3, 1) := by decide +kernel
theorem dX9_nextOf_39 : decode cX9_nextOf 39 = .ok (.ifCond .lt 18, 3) := by decide +kernel
theorem dX9_nextOf_42 : decode cX9_nextOf 42 = .ok (.aload_n 0, 1) := by decide +kernel
theorem dX9_nextOf_43 : decode cX9_nextOf 43 = .ok (.getfield 37, 3) := by decide +kernel
theorem dX9_nextOf_46 : decode cX9_nextOf 46 = .ok (.iload 5, 2) := by decide +kernel
theorem dX9_nextOf_48 : decode cX9_nextOf 48 = .ok (.iaload, 1) := by decide +kernel
theorem dX9_nextOf_49 : decode cX9_nextOf 49 = .ok (.iload 4, 2) := by decide +kernel
theorem dX9_nextOf_51 : decode cX9_nextOf 51 = .ok (.if_icmp .lt 6, 3) := by decide +kernel
theorem dX9_nextOf_54 : decode cX9_nextOf 54 = .ok (.goto 15, 3) := by decide +kernel
theorem dX9_nextOf_57 : decode cX9_nextOf 57 = .ok (.iload 5, 2) := by decide +kernel
theorem dX9_nextOf_59 : decode cX9_nextOf 59 = .ok (.istore_n 3, 1) := by decide +kernel
theorem dX9_nextOf_60 : decode cX9_nextOf 60 = .ok (.aload_n 0, 1) := by decide +kernel
theorem dX9_nextOf_61 : decode cX9_nextOf 61 = .ok (.getfield 37, 3) := by decide +kernel
theorem dX9_nextOf_64 : decode cX9_nextOf 64 = .ok (.iload 5, 2) := by decide +kernel
theorem dX9_nextOf_66 : decode cX9_nextOf 66 = .ok (.iaload, 1) := by decide +kernel
theorem dX9_nextOf_67 : decode cX9_nextOf 67 = .ok (.istore 4, 2) := by decide +kernel
theorem dX9_nextOf_69 : decode cX9_nextOf 69 = .ok (.iinc 5 1, 3) := by decide +kernel
theorem dX9_nextOf_72 : decode cX9_nextOf 72 = .ok (.goto (-64), 3) := by decide +kernel
theorem dX9_nextOf_75 : decode cX9_nextOf 75 = .ok (.iconst 0, 1) := by decide +kernel
theorem dX9_nextOf_76 : decode cX9_nextOf 76 = .ok (.istore 5, 2) := by decide +kernel
theorem dX9_nextOf_78 : decode cX9_nextOf 78 = .ok (.iload 5, 2) := by decide +kernel
theorem dX9_nextOf_80 : decode cX9_nextOf 80 = .ok (.aload_n 0, 1) := by decide +kernel
theorem dX9_nextOf_81 : decode cX9_nextOf 81 = .ok (.getfield 137, 3) := by decide +kernel
theorem dX9_nextOf_84 : decode cX9_nextOf 84 = .ok (.if_icmp .ge 77, 3) := by decide +kernel
theorem dX9_nextOf_87 : decode cX9_nextOf 87 = .ok (.aload_n 0, 1) := by decide +kernel
theorem dX9_nextOf_88 : decode cX9_nextOf 88 = .ok (.getfield 61, 3) := by decide +kernel
theorem dX9_nextOf_91 : decode cX9_nextOf 91 = .ok (.iload 5, 2) := by decide +kernel
theorem dX9_nextOf_93 : decode cX9_nextOf 93 = .ok (.iaload, 1) := by decide +kernel
theorem dX9_nextOf_94 : decode cX9_nextOf 94 = .ok (.iload_n 1, 1) := by decide +kernel
theorem dX9_nextOf_95 : decode cX9_nextOf 95 = .ok (.invokestatic 140, 3) := by decide +kernel
theorem dX9_nextOf_98 : decode cX9_nextOf 98 = .ok (.ifCond .eq 57, 3) := by decide +kernel
theorem dX9_nextOf_101 : decode cX9_nextOf 101 = .ok (.aload_n 0, 1) := by decide +kernel
theorem dX9_nextOf_102 : decode cX9_nextOf 102 = .ok (.getfield 61, 3) := by decide +kernel
theorem dX9_nextOf_105 : decode cX9_nextOf 105 = .ok (.iload 5, 2) := by decide +kernel
theorem dX9_nextOf_107 : decode cX9_nextOf 107 = .ok (.iaload, 1) := by decide +kernel
theorem dX9_nextOf_108 : decode cX9_nextOf 108 = .ok (.invokestatic 279, 3) := by decide +kernel
theorem dX9_nextOf_111 : decode cX9_nextOf 111 = .ok (.iload_n 2, 1) := by decide +kernel
theorem dX9_nextOf_112 : decode cX9_nextOf 112 = .ok (.if_icmp .lt 43, 3) := by decide +kernel
theorem dX9_nextOf_115 : decode cX9_nextOf 115 = .ok (.iload_n 3, 1) := by decide +kernel
theorem dX9_nextOf_116 : decode cX9_nextOf 116 = .ok (.ifCond .lt 21, 3) := by decide +kernel
theorem dX9_nextOf_119 : decode cX9_nextOf 119 = .ok (.aload_n 0, 1) := by decide +kernel
theorem dX9_nextOf_120 : decode cX9_nextOf 120 = .ok (.getfield 61, 3) := by decide +kernel
theorem dX9_nextOf_123 : decode cX9_nextOf 123 = .ok (.iload 5, 2) := by decide +kernel
theorem dX9_nextOf_125 : decode cX9_nextOf 125 = .ok (.iaload, 1) := by decide +kernel
theorem dX9_nextOf_126 : decode cX9_nextOf 126 = .ok (.invokestatic 279, 3) := by decide +kernel
theorem dX9_nextOf_129 : decode cX9_nextOf 129 = .ok (.iload 4, 2) := by decide +kernel
theorem dX9_nextOf_131 : decode cX9_nextOf 131 = .ok (.if_icmp .lt 6, 3) := by decide +kernel
theorem dX9_nextOf_134 : decode cX9_nextOf 134 = .ok (.goto 21, 3) := by decide +kernel
theorem dX9_nextOf_137 : decode cX9_nextOf 137 = .ok (.bipush 16, 2) := by decide +kernel
theorem dX9_nextOf_139 : decode cX9_nextOf 139 = .ok (.iload 5, 2) := by decide +kernel
theorem dX9_nextOf_141 : decode cX9_nextOf 141 = .ok (.iadd, 1) := by decide +kernel
theorem dX9_nextOf_142 : decode cX9_nextOf 142 = .ok (.istore_n 3, 1) := by decide +kernel
theorem dX9_nextOf_143 : decode cX9_nextOf 143 = .ok (.aload_n 0, 1) := by decide +kernel
theorem dX9_nextOf_144 : decode cX9_nextOf 144 = .ok (.getfield 61, 3) := by decide +kernel
theorem dX9_nextOf_147 : decode cX9_nextOf 147 = .ok (.iload 5, 2) := by decide +kernel
theorem dX9_nextOf_149 : decode cX9_nextOf 149 = .ok (.iaload, 1) := by decide +kernel
theorem dX9_nextOf_150 : decode cX9_nextOf 150 = .ok (.invokestatic 279, 3) := by decide +kernel
theorem dX9_nextOf_153 : decode cX9_nextOf 153 = .ok (.istore 4, 2) := by decide +kernel
theorem dX9_nextOf_155 : decode cX9_nextOf 155 = .ok (.iinc 5 1, 3) := by decide +kernel
theorem dX9_nextOf_158 : decode cX9_nextOf 158 = .ok (.goto (-80), 3) := by decide +kernel
theorem dX9_nextOf_161 : decode cX9_nextOf 161 = .ok (.iload_n 3, 1) := by decide +kernel
theorem dX9_nextOf_162 : decode cX9_nextOf 162 = .ok (.ireturn, 1) := by decide +kernel
theorem dX9_beginOf_0 : decode cX9_beginOf 0 = .ok (.iload_n 1, 1) := by decide +kernel
theorem dX9_beginOf_1 : decode cX9_beginOf 1 = .ok (.bipush 16, 2) := by decide +kernel
theorem dX9_beginOf_3 : decode cX9_beginOf 3 = .ok (.if_icmp .ge 12, 3) := by decide +kernel
theorem dX9_beginOf_6 : decode cX9_beginOf 6 = .ok (.aload_n 0, 1) := by decide +kernel
theorem dX9_beginOf_7 : decode cX9_beginOf 7 = .ok (.getfield 37, 3) := by decide +kernel
theorem dX9_beginOf_10 : decode cX9_beginOf 10 = .ok (.iload_n 1, 1) := by decide +kernel
theorem dX9_beginOf_11 : decode cX9_beginOf 11 = .ok (.iaload, 1) := by decide +kernel
theorem dX9_beginOf_12 : decode cX9_beginOf 12 = .ok (.goto 15, 3) := by decide +kernel
theorem dX9_beginOf_15 : decode cX9_beginOf 15 = .ok (.aload_n 0, 1) := by decide +kernel
theorem dX9_beginOf_16 : decode cX9_beginOf 16 = .ok (.getfield 61, 3) := by decide +kernel
theorem dX9_beginOf_19 : decode cX9_beginOf 19 = .ok (.iload_n 1, 1) := by decide +kernel
theorem dX9_beginOf_20 : decode cX9_beginOf 20 = .ok (.bipush 16, 2) := by decide +kernel
theorem dX9_beginOf_22 : decode cX9_beginOf 22 = .ok (.isub, 1) := by decide +kernel
theorem dX9_beginOf_23 : decode cX9_beginOf 23 = .ok (.iaload, 1) := by decide +kernel
theorem dX9_beginOf_24 : decode cX9_beginOf 24 = .ok (.invokestatic 279, 3) := by decide +kernel
theorem dX9_beginOf_27 : decode cX9_beginOf 27 = .ok (.ireturn, 1) := by decide +kernel
theorem dX9_ofTrip_0 : decode cX9_ofTrip 0 = .ok (.iload_n 2, 1) := by decide +kernel
theorem dX9_ofTrip_1 : decode cX9_ofTrip 1 = .ok (.ifCond .ne 7, 3) := by decide +kernel
theorem dX9_ofTrip_4 : decode cX9_ofTrip 4 = .ok (.iconst 0, 1) := by decide +kernel
theorem dX9_ofTrip_5 : decode cX9_ofTrip 5 = .ok (.goto 44, 3) := by decide +kernel
theorem dX9_ofTrip_8 : decode cX9_ofTrip 8 = .ok (.iload_n 2, 1) := by decide +kernel
theorem dX9_ofTrip_9 : decode cX9_ofTrip 9 = .ok (.iconst 1, 1) := by decide +kernel
theorem dX9_ofTrip_10 : decode cX9_ofTrip 10 = .ok (.if_icmp .ne 12, 3) := by decide +kernel
theorem dX9_ofTrip_13 : decode cX9_ofTrip 13 = .ok (.aload_n 0, 1) := by decide +kernel
theorem dX9_ofTrip_14 : decode cX9_ofTrip 14 = .ok (.getfield 37, 3) := by decide +kernel
theorem dX9_ofTrip_17 : decode cX9_ofTrip 17 = .ok (.iload_n 1, 1) := by decide +kernel
theorem dX9_ofTrip_18 : decode cX9_ofTrip 18 = .ok (.iaload, 1) := by decide +kernel
theorem dX9_ofTrip_19 : decode cX9_ofTrip 19 = .ok (.goto 30, 3) := by decide +kernel
theorem dX9_ofTrip_22 : decode cX9_ofTrip 22 = .ok (.iload_n 2, 1) := by decide +kernel
theorem dX9_ofTrip_23 : decode cX9_ofTrip 23 = .ok (.iconst 2, 1) := by decide +kernel
theorem dX9_ofTrip_24 : decode cX9_ofTrip 24 = .ok (.if_icmp .ne 11, 3) := by decide +kernel
theorem dX9_ofTrip_27 : decode cX9_ofTrip 27 = .ok (.aload_n 0, 1) := by decide +kernel
theorem dX9_ofTrip_28 : decode cX9_ofTrip 28 = .ok (.iload_n 1, 1) := by decide +kernel
theorem dX9_ofTrip_29 : decode cX9_ofTrip 29 = .ok (.invokevirtual 127, 3) := by decide +kernel
theorem dX9_ofTrip_32 : decode cX9_ofTrip 32 = .ok (.goto 17, 3) := by decide +kernel
theorem dX9_ofTrip_35 : decode cX9_ofTrip 35 = .ok (.iload_n 2, 1) := by decide +kernel
theorem dX9_ofTrip_36 : decode cX9_ofTrip 36 = .ok (.iconst 3, 1) := by decide +kernel
theorem dX9_ofTrip_37 : decode cX9_ofTrip 37 = .ok (.if_icmp .ne 7, 3) := by decide +kernel
theorem dX9_ofTrip_40 : decode cX9_ofTrip 40 = .ok (.iload_n 1, 1) := by decide +kernel
theorem dX9_ofTrip_41 : decode cX9_ofTrip 41 = .ok (.goto 8, 3) := by decide +kernel
theorem dX9_ofTrip_44 : decode cX9_ofTrip 44 = .ok (.aload_n 0, 1) := by decide +kernel
theorem dX9_ofTrip_45 : decode cX9_ofTrip 45 = .ok (.iload_n 1, 1) := by decide +kernel
theorem dX9_ofTrip_46 : decode cX9_ofTrip 46 = .ok (.invokevirtual 130, 3) := by decide +kernel
theorem dX9_ofTrip_49 : decode cX9_ofTrip 49 = .ok (.ireturn, 1) := by decide +kernel
theorem dX9_ofRide_0 : decode cX9_ofRide 0 = .ok (.iload_n 2, 1) := by decide +kernel
theorem dX9_ofRide_1 : decode cX9_ofRide 1 = .ok (.ifCond .ne 7, 3) := by decide +kernel
theorem dX9_ofRide_4 : decode cX9_ofRide 4 = .ok (.iconst 1, 1) := by decide +kernel
theorem dX9_ofRide_5 : decode cX9_ofRide 5 = .ok (.goto 43, 3) := by decide +kernel
theorem dX9_ofRide_8 : decode cX9_ofRide 8 = .ok (.iload_n 2, 1) := by decide +kernel
theorem dX9_ofRide_9 : decode cX9_ofRide 9 = .ok (.iconst 1, 1) := by decide +kernel
theorem dX9_ofRide_10 : decode cX9_ofRide 10 = .ok (.if_icmp .ne 10, 3) := by decide +kernel
theorem dX9_ofRide_13 : decode cX9_ofRide 13 = .ok (.iload_n 1, 1) := by decide +kernel
theorem dX9_ofRide_14 : decode cX9_ofRide 14 = .ok (.invokestatic 279, 3) := by decide +kernel
theorem dX9_ofRide_17 : decode cX9_ofRide 17 = .ok (.goto 31, 3) := by decide +kernel
theorem dX9_ofRide_20 : decode cX9_ofRide 20 = .ok (.iload_n 2, 1) := by decide +kernel
theorem dX9_ofRide_21 : decode cX9_ofRide 21 = .ok (.iconst 2, 1) := by decide +kernel
theorem dX9_ofRide_22 : decode cX9_ofRide 22 = .ok (.if_icmp .ne 10, 3) := by decide +kernel
theorem dX9_ofRide_25 : decode cX9_ofRide 25 = .ok (.iload_n 1, 1) := by decide +kernel
theorem dX9_ofRide_26 : decode cX9_ofRide 26 = .ok (.invokestatic 143, 3) := by decide +kernel
theorem dX9_ofRide_29 : decode cX9_ofRide 29 = .ok (.goto 19, 3) := by decide +kernel
theorem dX9_ofRide_32 : decode cX9_ofRide 32 = .ok (.iload_n 2, 1) := by decide +kernel
theorem dX9_ofRide_33 : decode cX9_ofRide 33 = .ok (.iconst 3, 1) := by decide +kernel
theorem dX9_ofRide_34 : decode cX9_ofRide 34 = .ok (.if_icmp .ne 10, 3) := by decide +kernel
theorem dX9_ofRide_37 : decode cX9_ofRide 37 = .ok (.iload_n 1, 1) := by decide +kernel
theorem dX9_ofRide_38 : decode cX9_ofRide 38 = .ok (.invokestatic 282, 3) := by decide +kernel
theorem dX9_ofRide_41 : decode cX9_ofRide 41 = .ok (.goto 7, 3) := by decide +kernel
theorem dX9_ofRide_44 : decode cX9_ofRide 44 = .ok (.iload_n 1, 1) := by decide +kernel
theorem dX9_ofRide_45 : decode cX9_ofRide 45 = .ok (.invokestatic 146, 3) := by decide +kernel
theorem dX9_ofRide_48 : decode cX9_ofRide 48 = .ok (.ireturn, 1) := by decide +kernel
theorem dX9_planOf_0 : decode cX9_planOf 0 = .ok (.aload_n 0, 1) := by decide +kernel
theorem dX9_planOf_1 : decode cX9_planOf 1 = .ok (.iload_n 1, 1) := by decide +kernel
theorem dX9_planOf_2 : decode cX9_planOf 2 = .ok (.invokevirtual 245, 3) := by decide +kernel
theorem dX9_planOf_5 : decode cX9_planOf 5 = .ok (.ifCond .ne 9, 3) := by decide +kernel
theorem dX9_planOf_8 : decode cX9_planOf 8 = .ok (.aload_n 0, 1) := by decide +kernel
theorem dX9_planOf_9 : decode cX9_planOf 9 = .ok (.iconst 1, 1) := by decide +kernel
theorem dX9_planOf_10 : decode cX9_planOf 10 = .ok (.invokevirtual 220, 3) := by decide +kernel
theorem dX9_planOf_13 : decode cX9_planOf 13 = .ok (.ireturn, 1) := by decide +kernel
theorem dX9_planOf_14 : decode cX9_planOf 14 = .ok (.iload_n 2, 1) := by decide +kernel
theorem dX9_planOf_15 : decode cX9_planOf 15 = .ok (.ifCond .ge 7, 3) := by decide +kernel
theorem dX9_planOf_18 : decode cX9_planOf 18 = .ok (.iconst (-1), 1) := by decide +kernel
theorem dX9_planOf_19 : decode cX9_planOf 19 = .ok (.goto 9, 3) := by decide +kernel
theorem dX9_planOf_22 : decode cX9_planOf 22 = .ok (.aload_n 0, 1) := by decide +kernel
theorem dX9_planOf_23 : decode cX9_planOf 23 = .ok (.iload_n 1, 1) := by decide +kernel
theorem dX9_planOf_24 : decode cX9_planOf 24 = .ok (.iconst 0, 1) := by decide +kernel
theorem dX9_planOf_25 : decode cX9_planOf 25 = .ok (.invokevirtual 285, 3) := by decide +kernel
theorem dX9_planOf_28 : decode cX9_planOf 28 = .ok (.istore 4, 2) := by decide +kernel
theorem dX9_planOf_30 : decode cX9_planOf 30 = .ok (.iconst 0, 1) := by decide +kernel
theorem dX9_planOf_31 : decode cX9_planOf 31 = .ok (.istore 5, 2) := by decide +kernel
theorem dX9_planOf_33 : decode cX9_planOf 33 = .ok (.iload 5, 2) := by decide +kernel
theorem dX9_planOf_35 : decode cX9_planOf 35 = .ok (.iload_n 2, 1) := by decide +kernel
theorem dX9_planOf_36 : decode cX9_planOf 36 = .ok (.if_icmp .ge 29, 3) := by decide +kernel
theorem dX9_planOf_39 : decode cX9_planOf 39 = .ok (.iload 4, 2) := by decide +kernel
theorem dX9_planOf_41 : decode cX9_planOf 41 = .ok (.ifCond .lt 24, 3) := by decide +kernel
theorem dX9_planOf_44 : decode cX9_planOf 44 = .ok (.aload_n 0, 1) := by decide +kernel
theorem dX9_planOf_45 : decode cX9_planOf 45 = .ok (.iload_n 1, 1) := by decide +kernel
theorem dX9_planOf_46 : decode cX9_planOf 46 = .ok (.aload_n 0, 1) := by decide +kernel
theorem dX9_planOf_47 : decode cX9_planOf 47 = .ok (.iload 4, 2) := by decide +kernel
theorem dX9_planOf_49 : decode cX9_planOf 49 = .ok (.invokevirtual 288, 3) := by decide +kernel
theorem dX9_planOf_52 : decode cX9_planOf 52 = .ok (.iconst 1, 1) := by decide +kernel
theorem dX9_planOf_53 : decode cX9_planOf 53 = .ok (.iadd, 1) := by decide +kernel
theorem dX9_planOf_54 : decode cX9_planOf 54 = .ok (.invokevirtual 285, 3) := by decide +kernel
theorem dX9_planOf_57 : decode cX9_planOf 57 = .ok (.istore 4, 2) := by decide +kernel
theorem dX9_planOf_59 : decode cX9_planOf 59 = .ok (.iinc 5 1, 3) := by decide +kernel
theorem dX9_planOf_62 : decode cX9_planOf 62 = .ok (.goto (-29), 3) := by decide +kernel
theorem dX9_planOf_65 : decode cX9_planOf 65 = .ok (.iload 4, 2) := by decide +kernel
theorem dX9_planOf_67 : decode cX9_planOf 67 = .ok (.ifCond .ge 9, 3) := by decide +kernel
theorem dX9_planOf_70 : decode cX9_planOf 70 = .ok (.aload_n 0, 1) := by decide +kernel
theorem dX9_planOf_71 : decode cX9_planOf 71 = .ok (.iconst 2, 1) := by decide +kernel
theorem dX9_planOf_72 : decode cX9_planOf 72 = .ok (.invokevirtual 220, 3) := by decide +kernel
theorem dX9_planOf_75 : decode cX9_planOf 75 = .ok (.ireturn, 1) := by decide +kernel
theorem dX9_planOf_76 : decode cX9_planOf 76 = .ok (.iload_n 3, 1) := by decide +kernel
theorem dX9_planOf_77 : decode cX9_planOf 77 = .ok (.iconst 0, 1) := by decide +kernel
theorem dX9_planOf_78 : decode cX9_planOf 78 = .ok (.iconst 4, 1) := by decide +kernel
theorem dX9_planOf_79 : decode cX9_planOf 79 = .ok (.invokestatic 90, 3) := by decide +kernel
theorem dX9_planOf_82 : decode cX9_planOf 82 = .ok (.ifCond .ne 9, 3) := by decide +kernel
theorem dX9_planOf_85 : decode cX9_planOf 85 = .ok (.aload_n 0, 1) := by decide +kernel
theorem dX9_planOf_86 : decode cX9_planOf 86 = .ok (.iconst 3, 1) := by decide +kernel
theorem dX9_planOf_87 : decode cX9_planOf 87 = .ok (.invokevirtual 220, 3) := by decide +kernel
theorem dX9_planOf_90 : decode cX9_planOf 90 = .ok (.ireturn, 1) := by decide +kernel
theorem dX9_planOf_91 : decode cX9_planOf 91 = .ok (.aload_n 0, 1) := by decide +kernel
theorem dX9_planOf_92 : decode cX9_planOf 92 = .ok (.iconst 0, 1) := by decide +kernel
theorem dX9_planOf_93 : decode cX9_planOf 93 = .ok (.putfield 87, 3) := by decide +kernel
theorem dX9_planOf_96 : decode cX9_planOf 96 = .ok (.iload 4, 2) := by decide +kernel
theorem dX9_planOf_98 : decode cX9_planOf 98 = .ok (.bipush 16, 2) := by decide +kernel
theorem dX9_planOf_100 : decode cX9_planOf 100 = .ok (.if_icmp .ge 13, 3) := by decide +kernel
theorem dX9_planOf_103 : decode cX9_planOf 103 = .ok (.aload_n 0, 1) := by decide +kernel
theorem dX9_planOf_104 : decode cX9_planOf 104 = .ok (.iload 4, 2) := by decide +kernel
theorem dX9_planOf_106 : decode cX9_planOf 106 = .ok (.iload_n 3, 1) := by decide +kernel
theorem dX9_planOf_107 : decode cX9_planOf 107 = .ok (.invokevirtual 291, 3) := by decide +kernel
theorem dX9_planOf_110 : decode cX9_planOf 110 = .ok (.goto 18, 3) := by decide +kernel
theorem dX9_planOf_113 : decode cX9_planOf 113 = .ok (.aload_n 0, 1) := by decide +kernel
theorem dX9_planOf_114 : decode cX9_planOf 114 = .ok (.aload_n 0, 1) := by decide +kernel
theorem dX9_planOf_115 : decode cX9_planOf 115 = .ok (.getfield 61, 3) := by decide +kernel
theorem dX9_planOf_118 : decode cX9_planOf 118 = .ok (.iload 4, 2) := by decide +kernel
theorem dX9_planOf_120 : decode cX9_planOf 120 = .ok (.bipush 16, 2) := by decide +kernel
theorem dX9_planOf_122 : decode cX9_planOf 122 = .ok (.isub, 1) := by decide +kernel
theorem dX9_planOf_123 : decode cX9_planOf 123 = .ok (.iaload, 1) := by decide +kernel
theorem dX9_planOf_124 : decode cX9_planOf 124 = .ok (.iload_n 3, 1) := by decide +kernel
theorem dX9_planOf_125 : decode cX9_planOf 125 = .ok (.invokevirtual 294, 3) := by decide +kernel
theorem dX9_planOf_128 : decode cX9_planOf 128 = .ok (.ireturn, 1) := by decide +kernel
theorem dX9_placeAt_0 : decode cX9_placeAt 0 = .ok (.iconst 0, 1) := by decide +kernel
theorem dX9_placeAt_1 : decode cX9_placeAt 1 = .ok (.istore_n 3, 1) := by decide +kernel
theorem dX9_placeAt_2 : decode cX9_placeAt 2 = .ok (.iconst (-1), 1) := by decide +kernel
theorem dX9_placeAt_3 : decode cX9_placeAt 3 = .ok (.istore 4, 2) := by decide +kernel
theorem dX9_placeAt_5 : decode cX9_placeAt 5 = .ok (.iconst 0, 1) := by decide +kernel
theorem dX9_placeAt_6 : decode cX9_placeAt 6 = .ok (.istore 5, 2) := by decide +kernel
theorem dX9_placeAt_8 : decode cX9_placeAt 8 = .ok (.iload 5, 2) := by decide +kernel
theorem dX9_placeAt_10 : decode cX9_placeAt 10 = .ok (.aload_n 0, 1) := by decide +kernel
theorem dX9_placeAt_11 : decode cX9_placeAt 11 = .ok (.getfield 100, 3) := by decide +kernel
theorem dX9_placeAt_14 : decode cX9_placeAt 14 = .ok (.if_icmp .ge 75, 3) := by decide +kernel
theorem dX9_placeAt_17 : decode cX9_placeAt 17 = .ok (.aload_n 0, 1) := by decide +kernel
theorem dX9_placeAt_18 : decode cX9_placeAt 18 = .ok (.iload 5, 2) := by decide +kernel
theorem dX9_placeAt_20 : decode cX9_placeAt 20 = .ok (.iload_n 1, 1) := by decide +kernel
theorem dX9_placeAt_21 : decode cX9_placeAt 21 = .ok (.invokevirtual 124, 3) := by decide +kernel
theorem dX9_placeAt_24 : decode cX9_placeAt 24 = .ok (.ifCond .eq 59, 3) := by decide +kernel
theorem dX9_placeAt_27 : decode cX9_placeAt 27 = .ok (.aload_n 0, 1) := by decide +kernel
theorem dX9_placeAt_28 : decode cX9_placeAt 28 = .ok (.getfield 37, 3) := by decide +kernel
theorem dX9_placeAt_31 : decode cX9_placeAt 31 = .ok (.iload 5, 2) := by decide +kernel
theorem dX9_placeAt_33 : decode cX9_placeAt 33 = .ok (.iaload, 1) := by decide +kernel
theorem dX9_placeAt_34 : decode cX9_placeAt 34 = .ok (.iload_n 2, 1) := by decide +kernel
theorem dX9_placeAt_35 : decode cX9_placeAt 35 = .ok (.if_icmp .gt 48, 3) := by decide +kernel
theorem dX9_placeAt_38 : decode cX9_placeAt 38 = .ok (.aload_n 0, 1) := by decide +kernel
theorem dX9_placeAt_39 : decode cX9_placeAt 39 = .ok (.getfield 37, 3) := by decide +kernel
theorem dX9_placeAt_42 : decode cX9_placeAt 42 = .ok (.iload 5, 2) := by decide +kernel
theorem dX9_placeAt_44 : decode cX9_placeAt 44 = .ok (.iaload, 1) := by decide +kernel
theorem dX9_placeAt_45 : decode cX9_placeAt 45 = .ok (.iload 4, 2) := by decide +kernel
theorem dX9_placeAt_47 : decode cX9_placeAt 47 = .ok (.if_icmp .ge 6, 3) := by decide +kernel
theorem dX9_placeAt_50 : decode cX9_placeAt 50 = .ok (.goto 33, 3) := by decide +kernel
theorem dX9_placeAt_53 : decode cX9_placeAt 53 = .ok (.aload_n 0, 1) := by decide +kernel
theorem dX9_placeAt_54 : decode cX9_placeAt 54 = .ok (.getfield 37, 3) := by decide +kernel
theorem dX9_placeAt_57 : decode cX9_placeAt 57 = .ok (.iload 5, 2) := by decide +kernel
theorem dX9_placeAt_59 : decode cX9_placeAt 59 = .ok (.iaload, 1) := by decide +kernel
theorem dX9_placeAt_60 : decode cX9_placeAt 60 = .ok (.istore 4, 2) := by decide +kernel
theorem dX9_placeAt_62 : decode cX9_placeAt 62 = .ok (.aload_n 0, 1) := by decide +kernel
theorem dX9_placeAt_63 : decode cX9_placeAt 63 = .ok (.iload 5, 2) := by decide +kernel
theorem dX9_placeAt_65 : decode cX9_placeAt 65 = .ok (.invokevirtual 127, 3) := by decide +kernel
theorem dX9_placeAt_68 : decode cX9_placeAt 68 = .ok (.iload_n 2, 1) := by decide +kernel
theorem dX9_placeAt_69 : decode cX9_placeAt 69 = .ok (.if_icmp .le 7, 3) := by decide +kernel
theorem dX9_placeAt_72 : decode cX9_placeAt 72 = .ok (.iconst (-1), 1) := by decide +kernel
theorem dX9_placeAt_73 : decode cX9_placeAt 73 = .ok (.goto 9, 3) := by decide +kernel
theorem dX9_placeAt_76 : decode cX9_placeAt 76 = .ok (.aload_n 0, 1) := by decide +kernel
theorem dX9_placeAt_77 : decode cX9_placeAt 77 = .ok (.iload 5, 2) := by decide +kernel
theorem dX9_placeAt_79 : decode cX9_placeAt 79 = .ok (.invokevirtual 130, 3) := by decide +kernel
theorem dX9_placeAt_82 : decode cX9_placeAt 82 = .ok (.istore_n 3, 1) := by decide +kernel
theorem dX9_placeAt_83 : decode cX9_placeAt 83 = .ok (.iinc 5 1, 3) := by decide +kernel
theorem dX9_placeAt_86 : decode cX9_placeAt 86 = .ok (.goto (-78), 3) := by decide +kernel
theorem dX9_placeAt_89 : decode cX9_placeAt 89 = .ok (.iconst 0, 1) := by decide +kernel
theorem dX9_placeAt_90 : decode cX9_placeAt 90 = .ok (.istore 5, 2) := by decide +kernel
theorem dX9_placeAt_92 : decode cX9_placeAt 92 = .ok (.iload 5, 2) := by decide +kernel
theorem dX9_placeAt_94 : decode cX9_placeAt 94 = .ok (.aload_n 0, 1) := by decide +kernel
theorem dX9_placeAt_95 : decode cX9_placeAt 95 = .ok (.getfield 137, 3) := by decide +kernel
theorem dX9_placeAt_98 : decode cX9_placeAt 98 = .ok (.if_icmp .ge 84, 3) := by decide +kernel
theorem dX9_placeAt_101 : decode cX9_placeAt 101 = .ok (.aload_n 0, 1) := by decide +kernel
theorem dX9_placeAt_102 : decode cX9_placeAt 102 = .ok (.getfield 61, 3) := by decide +kernel
theorem dX9_placeAt_105 : decode cX9_placeAt 105 = .ok (.iload 5, 2) := by decide +kernel
theorem dX9_placeAt_107 : decode cX9_placeAt 107 = .ok (.iaload, 1) := by decide +kernel
theorem dX9_placeAt_108 : decode cX9_placeAt 108 = .ok (.invokestatic 279, 3) := by decide +kernel
theorem dX9_placeAt_111 : decode cX9_placeAt 111 = .ok (.istore 6, 2) := by decide +kernel
theorem dX9_placeAt_113 : decode cX9_placeAt 113 = .ok (.aload_n 0, 1) := by decide +kernel
theorem dX9_placeAt_114 : decode cX9_placeAt 114 = .ok (.getfield 61, 3) := by decide +kernel
theorem dX9_placeAt_117 : decode cX9_placeAt 117 = .ok (.iload 5, 2) := by decide +kernel
theorem dX9_placeAt_119 : decode cX9_placeAt 119 = .ok (.iaload, 1) := by decide +kernel
theorem dX9_placeAt_120 : decode cX9_placeAt 120 = .ok (.iload_n 1, 1) := by decide +kernel
theorem dX9_placeAt_121 : decode cX9_placeAt 121 = .ok (.invokestatic 140, 3) := by decide +kernel
theorem dX9_placeAt_124 : decode cX9_placeAt 124 = .ok (.ifCond .eq 52, 3) := by decide +kernel
theorem dX9_placeAt_127 : decode cX9_placeAt 127 = .ok (.iload 6, 2) := by decide +kernel
theorem dX9_placeAt_129 : decode cX9_placeAt 129 = .ok (.iload_n 2, 1) := by decide +kernel
theorem dX9_placeAt_130 : decode cX9_placeAt 130 = .ok (.if_icmp .gt 46, 3) := by decide +kernel
theorem dX9_placeAt_133 : decode cX9_placeAt 133 = .ok (.iload 6, 2) := by decide +kernel
theorem dX9_placeAt_135 : decode cX9_placeAt 135 = .ok (.iload 4, 2) := by decide +kernel
theorem dX9_placeAt_137 : decode cX9_placeAt 137 = .ok (.if_icmp .ge 6, 3) := by decide +kernel
theorem dX9_placeAt_140 : decode cX9_placeAt 140 = .ok (.goto 36, 3) := by decide +kernel
theorem dX9_placeAt_143 : decode cX9_placeAt 143 = .ok (.iload 6, 2) := by decide +kernel
theorem dX9_placeAt_145 : decode cX9_placeAt 145 = .ok (.istore 4, 2) := by decide +kernel
theorem dX9_placeAt_147 : decode cX9_placeAt 147 = .ok (.aload_n 0, 1) := by decide +kernel
theorem dX9_placeAt_148 : decode cX9_placeAt 148 = .ok (.getfield 61, 3) := by decide +kernel
theorem dX9_placeAt_151 : decode cX9_placeAt 151 = .ok (.iload 5, 2) := by decide +kernel
theorem dX9_placeAt_153 : decode cX9_placeAt 153 = .ok (.iaload, 1) := by decide +kernel
theorem dX9_placeAt_154 : decode cX9_placeAt 154 = .ok (.invokestatic 143, 3) := by decide +kernel
theorem dX9_placeAt_157 : decode cX9_placeAt 157 = .ok (.iload_n 2, 1) := by decide +kernel
theorem dX9_placeAt_158 : decode cX9_placeAt 158 = .ok (.if_icmp .le 7, 3) := by decide +kernel
theorem dX9_placeAt_161 : decode cX9_placeAt 161 = .ok (.iconst (-1), 1) := by decide +kernel
theorem dX9_placeAt_162 : decode cX9_placeAt 162 = .ok (.goto 13, 3) := by decide +kernel
theorem dX9_placeAt_165 : decode cX9_placeAt 165 = .ok (.aload_n 0, 1) := by decide +kernel
theorem dX9_placeAt_166 : decode cX9_placeAt 166 = .ok (.getfield 61, 3) := by decide +kernel
theorem dX9_placeAt_169 : decode cX9_placeAt 169 = .ok (.iload 5, 2) := by decide +kernel
theorem dX9_placeAt_171 : decode cX9_placeAt 171 = .ok (.iaload, 1) := by decide +kernel
theorem dX9_placeAt_172 : decode cX9_placeAt 172 = .ok (.invokestatic 146, 3) := by decide +kernel
theorem dX9_placeAt_175 : decode cX9_placeAt 175 = .ok (.istore_n 3, 1) := by decide +kernel
theorem dX9_placeAt_176 : decode cX9_placeAt 176 = .ok (.iinc 5 1, 3) := by decide +kernel
theorem dX9_placeAt_179 : decode cX9_placeAt 179 = .ok (.goto (-87), 3) := by decide +kernel
theorem dX9_placeAt_182 : decode cX9_placeAt 182 = .ok (.iload_n 3, 1) := by decide +kernel
theorem dX9_placeAt_183 : decode cX9_placeAt 183 = .ok (.ireturn, 1) := by decide +kernel
theorem dX9_place_0 : decode cX9_place 0 = .ok (.aload_n 0, 1) := by decide +kernel
theorem dX9_place_1 : decode cX9_place 1 = .ok (.iload_n 1, 1) := by decide +kernel
theorem dX9_place_2 : decode cX9_place 2 = .ok (.invokevirtual 245, 3) := by decide +kernel
theorem dX9_place_5 : decode cX9_place 5 = .ok (.ifCond .eq 10, 3) := by decide +kernel
theorem dX9_place_8 : decode cX9_place 8 = .ok (.iload_n 2, 1) := by decide +kernel
theorem dX9_place_9 : decode cX9_place 9 = .ok (.invokestatic 226, 3) := by decide +kernel
theorem dX9_place_12 : decode cX9_place 12 = .ok (.ifCond .ne 9, 3) := by decide +kernel
theorem dX9_place_15 : decode cX9_place 15 = .ok (.aload_n 0, 1) := by decide +kernel
theorem dX9_place_16 : decode cX9_place 16 = .ok (.iconst 1, 1) := by decide +kernel
theorem dX9_place_17 : decode cX9_place 17 = .ok (.invokevirtual 220, 3) := by decide +kernel
theorem dX9_place_20 : decode cX9_place 20 = .ok (.ireturn, 1) := by decide +kernel
theorem dX9_place_21 : decode cX9_place 21 = .ok (.aload_n 0, 1) := by decide +kernel
theorem dX9_place_22 : decode cX9_place 22 = .ok (.iconst 0, 1) := by decide +kernel
theorem dX9_place_23 : decode cX9_place 23 = .ok (.putfield 87, 3) := by decide +kernel
theorem dX9_place_26 : decode cX9_place 26 = .ok (.aload_n 0, 1) := by decide +kernel
theorem dX9_place_27 : decode cX9_place 27 = .ok (.iload_n 1, 1) := by decide +kernel
theorem dX9_place_28 : decode cX9_place 28 = .ok (.iload_n 2, 1) := by decide +kernel
theorem dX9_place_29 : decode cX9_place 29 = .ok (.invokevirtual 297, 3) := by decide +kernel
theorem dX9_place_32 : decode cX9_place 32 = .ok (.ireturn, 1) := by decide +kernel
theorem dX9_placeAgain_0 : decode cX9_placeAgain 0 = .ok (.aload_n 0, 1) := by decide +kernel
theorem dX9_placeAgain_1 : decode cX9_placeAgain 1 = .ok (.iload_n 1, 1) := by decide +kernel
theorem dX9_placeAgain_2 : decode cX9_placeAgain 2 = .ok (.invokevirtual 245, 3) := by decide +kernel
theorem dX9_placeAgain_5 : decode cX9_placeAgain 5 = .ok (.ifCond .eq 10, 3) := by decide +kernel
theorem dX9_placeAgain_8 : decode cX9_placeAgain 8 = .ok (.iload_n 2, 1) := by decide +kernel
theorem dX9_placeAgain_9 : decode cX9_placeAgain 9 = .ok (.invokestatic 226, 3) := by decide +kernel
theorem dX9_placeAgain_12 : decode cX9_placeAgain 12 = .ok (.ifCond .ne 9, 3) := by decide +kernel
theorem dX9_placeAgain_15 : decode cX9_placeAgain 15 = .ok (.aload_n 0, 1) := by decide +kernel
theorem dX9_placeAgain_16 : decode cX9_placeAgain 16 = .ok (.iconst 1, 1) := by decide +kernel
theorem dX9_placeAgain_17 : decode cX9_placeAgain 17 = .ok (.invokevirtual 220, 3) := by decide +kernel
theorem dX9_placeAgain_20 : decode cX9_placeAgain 20 = .ok (.ireturn, 1) := by decide +kernel
theorem dX9_placeAgain_21 : decode cX9_placeAgain 21 = .ok (.aload_n 0, 1) := by decide +kernel
theorem dX9_placeAgain_22 : decode cX9_placeAgain 22 = .ok (.iconst 0, 1) := by decide +kernel
theorem dX9_placeAgain_23 : decode cX9_placeAgain 23 = .ok (.putfield 87, 3) := by decide +kernel
theorem dX9_placeAgain_26 : decode cX9_placeAgain 26 = .ok (.iconst 0, 1) := by decide +kernel
theorem dX9_placeAgain_27 : decode cX9_placeAgain 27 = .ok (.istore_n 3, 1) := by decide +kernel
theorem dX9_placeAgain_28 : decode cX9_placeAgain 28 = .ok (.aload_n 0, 1) := by decide +kernel
theorem dX9_placeAgain_29 : decode cX9_placeAgain 29 = .ok (.iload_n 1, 1) := by decide +kernel
theorem dX9_placeAgain_30 : decode cX9_placeAgain 30 = .ok (.iconst 0, 1) := by decide +kernel
theorem dX9_placeAgain_31 : decode cX9_placeAgain 31 = .ok (.invokevirtual 285, 3) := by decide +kernel
theorem dX9_placeAgain_34 : decode cX9_placeAgain 34 = .ok (.istore 4, 2) := by decide +kernel
theorem dX9_placeAgain_36 : decode cX9_placeAgain 36 = .ok (.iload 4, 2) := by decide +kernel
theorem dX9_placeAgain_38 : decode cX9_placeAgain 38 = .ok (.ifCond .lt 94, 3) := by decide +kernel
theorem dX9_placeAgain_41 : decode cX9_placeAgain 41 = .ok (.aload_n 0, 1) := by decide +kernel
theorem dX9_placeAgain_42 : decode cX9_placeAgain 42 = .ok (.iload 4, 2) := by decide +kernel
theorem dX9_placeAgain_44 : decode cX9_placeAgain 44 = .ok (.invokevirtual 288, 3) := by decide +kernel
theorem dX9_placeAgain_47 : decode cX9_placeAgain 47 = .ok (.iload_n 2, 1) := by decide +kernel
theorem dX9_placeAgain_48 : decode cX9_placeAgain 48 = .ok (.if_icmp .gt 84, 3) := by decide +kernel
theorem dX9_placeAgain_51 : decode cX9_placeAgain 51 = .ok (.iload 4, 2) := by decide +kernel
theorem dX9_placeAgain_53 : decode cX9_placeAgain 53 = .ok (.bipush 16, 2) := by decide +kernel
theorem dX9_placeAgain_55 : decode cX9_placeAgain 55 = .ok (.if_icmp .ge 12, 3) := by decide +kernel
theorem dX9_placeAgain_58 : decode cX9_placeAgain 58 = .ok (.aload_n 0, 1) := by decide +kernel
theorem dX9_placeAgain_59 : decode cX9_placeAgain 59 = .ok (.iload 4, 2) := by decide +kernel
theorem dX9_placeAgain_61 : decode cX9_placeAgain 61 = .ok (.invokevirtual 127, 3) := by decide +kernel
theorem dX9_placeAgain_64 : decode cX9_placeAgain 64 = .ok (.goto 16, 3) := by decide +kernel
theorem dX9_placeAgain_67 : decode cX9_placeAgain 67 = .ok (.aload_n 0, 1) := by decide +kernel
theorem dX9_placeAgain_68 : decode cX9_placeAgain 68 = .ok (.getfield 61, 3) := by decide +kernel
theorem dX9_placeAgain_71 : decode cX9_placeAgain 71 = .ok (.iload 4, 2) := by decide +kernel
theorem dX9_placeAgain_73 : decode cX9_placeAgain 73 = .ok (.bipush 16, 2) := by decide +kernel
theorem dX9_placeAgain_75 : decode cX9_placeAgain 75 = .ok (.isub, 1) := by decide +kernel
theorem dX9_placeAgain_76 : decode cX9_placeAgain 76 = .ok (.iaload, 1) := by decide +kernel
theorem dX9_placeAgain_77 : decode cX9_placeAgain 77 = .ok (.invokestatic 143, 3) := by decide +kernel
theorem dX9_placeAgain_80 : decode cX9_placeAgain 80 = .ok (.istore 5, 2) := by decide +kernel
theorem dX9_placeAgain_82 : decode cX9_placeAgain 82 = .ok (.iload 5, 2) := by decide +kernel
theorem dX9_placeAgain_84 : decode cX9_placeAgain 84 = .ok (.iload_n 2, 1) := by decide +kernel
theorem dX9_placeAgain_85 : decode cX9_placeAgain 85 = .ok (.if_icmp .le 5, 3) := by decide +kernel
theorem dX9_placeAgain_88 : decode cX9_placeAgain 88 = .ok (.iconst (-1), 1) := by decide +kernel
theorem dX9_placeAgain_89 : decode cX9_placeAgain 89 = .ok (.ireturn, 1) := by decide +kernel
theorem dX9_placeAgain_90 : decode cX9_placeAgain 90 = .ok (.iload 4, 2) := by decide +kernel
theorem dX9_placeAgain_92 : decode cX9_placeAgain 92 = .ok (.bipush 16, 2) := by decide +kernel
theorem dX9_placeAgain_94 : decode cX9_placeAgain 94 = .ok (.if_icmp .ge 12, 3) := by decide +kernel
theorem dX9_placeAgain_97 : decode cX9_placeAgain 97 = .ok (.aload_n 0, 1) := by decide +kernel
theorem dX9_placeAgain_98 : decode cX9_placeAgain 98 = .ok (.iload 4, 2) := by decide +kernel
theorem dX9_placeAgain_100 : decode cX9_placeAgain 100 = .ok (.invokevirtual 130, 3) := by decide +kernel
theorem dX9_placeAgain_103 : decode cX9_placeAgain 103 = .ok (.goto 16, 3) := by decide +kernel
theorem dX9_placeAgain_106 : decode cX9_placeAgain 106 = .ok (.aload_n 0, 1) := by decide +kernel
theorem dX9_placeAgain_107 : decode cX9_placeAgain 107 = .ok (.getfield 61, 3) := by decide +kernel
theorem dX9_placeAgain_110 : decode cX9_placeAgain 110 = .ok (.iload 4, 2) := by decide +kernel
theorem dX9_placeAgain_112 : decode cX9_placeAgain 112 = .ok (.bipush 16, 2) := by decide +kernel
theorem dX9_placeAgain_114 : decode cX9_placeAgain 114 = .ok (.isub, 1) := by decide +kernel
theorem dX9_placeAgain_115 : decode cX9_placeAgain 115 = .ok (.iaload, 1) := by decide +kernel
theorem dX9_placeAgain_116 : decode cX9_placeAgain 116 = .ok (.invokestatic 146, 3) := by decide +kernel
theorem dX9_placeAgain_119 : decode cX9_placeAgain 119 = .ok (.istore_n 3, 1) := by decide +kernel
theorem dX9_placeAgain_120 : decode cX9_placeAgain 120 = .ok (.aload_n 0, 1) := by decide +kernel
theorem dX9_placeAgain_121 : decode cX9_placeAgain 121 = .ok (.iload_n 1, 1) := by decide +kernel
theorem dX9_placeAgain_122 : decode cX9_placeAgain 122 = .ok (.iload 5, 2) := by decide +kernel
theorem dX9_placeAgain_124 : decode cX9_placeAgain 124 = .ok (.invokevirtual 285, 3) := by decide +kernel
theorem dX9_placeAgain_127 : decode cX9_placeAgain 127 = .ok (.istore 4, 2) := by decide +kernel
theorem dX9_placeAgain_129 : decode cX9_placeAgain 129 = .ok (.goto (-93), 3) := by decide +kernel
theorem dX9_placeAgain_132 : decode cX9_placeAgain 132 = .ok (.iload_n 3, 1) := by decide +kernel
theorem dX9_placeAgain_133 : decode cX9_placeAgain 133 = .ok (.ireturn, 1) := by decide +kernel
theorem dX9_ridesOn_0 : decode cX9_ridesOn 0 = .ok (.iconst 0, 1) := by decide +kernel
theorem dX9_ridesOn_1 : decode cX9_ridesOn 1 = .ok (.istore_n 2, 1) := by decide +kernel
theorem dX9_ridesOn_2 : decode cX9_ridesOn 2 = .ok (.iconst 0, 1) := by decide +kernel
theorem dX9_ridesOn_3 : decode cX9_ridesOn 3 = .ok (.istore_n 3, 1) := by decide +kernel
theorem dX9_ridesOn_4 : decode cX9_ridesOn 4 = .ok (.iload_n 3, 1) := by decide +kernel
theorem dX9_ridesOn_5 : decode cX9_ridesOn 5 = .ok (.aload_n 0, 1) := by decide +kernel
theorem dX9_ridesOn_6 : decode cX9_ridesOn 6 = .ok (.getfield 137, 3) := by decide +kernel
theorem dX9_ridesOn_9 : decode cX9_ridesOn 9 = .ok (.if_icmp .ge 44, 3) := by decide +kernel
theorem dX9_ridesOn_12 : decode cX9_ridesOn 12 = .ok (.iload_n 2, 1) := by decide +kernel
theorem dX9_ridesOn_13 : decode cX9_ridesOn 13 = .ok (.aload_n 0, 1) := by decide +kernel
theorem dX9_ridesOn_14 : decode cX9_ridesOn 14 = .ok (.getfield 61, 3) := by decide +kernel
theorem dX9_ridesOn_17 : decode cX9_ridesOn 17 = .ok (.iload_n 3, 1) := by decide +kernel
theorem dX9_ridesOn_18 : decode cX9_ridesOn 18 = .ok (.iaload, 1) := by decide +kernel
theorem dX9_ridesOn_19 : decode cX9_ridesOn 19 = .ok (.invokestatic 282, 3) := by decide +kernel
theorem dX9_ridesOn_22 : decode cX9_ridesOn 22 = .ok (.iload_n 1, 1) := by decide +kernel
theorem dX9_ridesOn_23 : decode cX9_ridesOn 23 = .ok (.if_icmp .ne 21, 3) := by decide +kernel
theorem dX9_ridesOn_26 : decode cX9_ridesOn 26 = .ok (.aload_n 0, 1) := by decide +kernel
theorem dX9_ridesOn_27 : decode cX9_ridesOn 27 = .ok (.getfield 61, 3) := by decide +kernel
theorem dX9_ridesOn_30 : decode cX9_ridesOn 30 = .ok (.iload_n 3, 1) := by decide +kernel
theorem dX9_ridesOn_31 : decode cX9_ridesOn 31 = .ok (.iaload, 1) := by decide +kernel
theorem dX9_ridesOn_32 : decode cX9_ridesOn 32 = .ok (.bipush 13, 2) := by decide +kernel
theorem dX9_ridesOn_34 : decode cX9_ridesOn 34 = .ok (.ishr, 1) := by decide +kernel
theorem dX9_ridesOn_35 : decode cX9_ridesOn 35 = .ok (.bipush 63, 2) := by decide +kernel
theorem dX9_ridesOn_37 : decode cX9_ridesOn 37 = .ok (.iand, 1) := by decide +kernel
theorem dX9_ridesOn_38 : decode cX9_ridesOn 38 = .ok (.invokestatic 172, 3) := by decide +kernel
theorem dX9_ridesOn_41 : decode cX9_ridesOn 41 = .ok (.goto 4, 3) := by decide +kernel
theorem dX9_ridesOn_44 : decode cX9_ridesOn 44 = .ok (.iconst 0, 1) := by decide +kernel
theorem dX9_ridesOn_45 : decode cX9_ridesOn 45 = .ok (.iadd, 1) := by decide +kernel
theorem dX9_ridesOn_46 : decode cX9_ridesOn 46 = .ok (.istore_n 2, 1) := by decide +kernel
theorem dX9_ridesOn_47 : decode cX9_ridesOn 47 = .ok (.iinc 3 1, 3) := by decide +kernel
theorem dX9_ridesOn_50 : decode cX9_ridesOn 50 = .ok (.goto (-46), 3) := by decide +kernel
theorem dX9_ridesOn_53 : decode cX9_ridesOn 53 = .ok (.iload_n 2, 1) := by decide +kernel
theorem dX9_ridesOn_54 : decode cX9_ridesOn 54 = .ok (.ireturn, 1) := by decide +kernel
theorem dX9_boat_0 : decode cX9_boat 0 = .ok (.aload_n 0, 1) := by decide +kernel
theorem dX9_boat_1 : decode cX9_boat 1 = .ok (.iload_n 1, 1) := by decide +kernel
theorem dX9_boat_2 : decode cX9_boat 2 = .ok (.invokevirtual 252, 3) := by decide +kernel
theorem dX9_boat_5 : decode cX9_boat 5 = .ok (.ifCond .ne 9, 3) := by decide +kernel
theorem dX9_boat_8 : decode cX9_boat 8 = .ok (.aload_n 0, 1) := by decide +kernel
theorem dX9_boat_9 : decode cX9_boat 9 = .ok (.iconst 1, 1) := by decide +kernel
theorem dX9_boat_10 : decode cX9_boat 10 = .ok (.invokevirtual 220, 3) := by decide +kernel
theorem dX9_boat_13 : decode cX9_boat 13 = .ok (.ireturn, 1) := by decide +kernel
theorem dX9_boat_14 : decode cX9_boat 14 = .ok (.iload_n 2, 1) := by decide +kernel
theorem dX9_boat_15 : decode cX9_boat 15 = .ok (.iconst 0, 1) := by decide +kernel
theorem dX9_boat_16 : decode cX9_boat 16 = .ok (.iconst 4, 1) := by decide +kernel
theorem dX9_boat_17 : decode cX9_boat 17 = .ok (.invokestatic 90, 3) := by decide +kernel
theorem dX9_boat_20 : decode cX9_boat 20 = .ok (.ifCond .ne 9, 3) := by decide +kernel
theorem dX9_boat_23 : decode cX9_boat 23 = .ok (.aload_n 0, 1) := by decide +kernel
theorem dX9_boat_24 : decode cX9_boat 24 = .ok (.iconst 2, 1) := by decide +kernel
theorem dX9_boat_25 : decode cX9_boat 25 = .ok (.invokevirtual 220, 3) := by decide +kernel
theorem dX9_boat_28 : decode cX9_boat 28 = .ok (.ireturn, 1) := by decide +kernel
theorem dX9_boat_29 : decode cX9_boat 29 = .ok (.aload_n 0, 1) := by decide +kernel
theorem dX9_boat_30 : decode cX9_boat 30 = .ok (.iconst 0, 1) := by decide +kernel
theorem dX9_boat_31 : decode cX9_boat 31 = .ok (.putfield 87, 3) := by decide +kernel
theorem dX9_boat_34 : decode cX9_boat 34 = .ok (.iload_n 2, 1) := by decide +kernel
theorem dX9_boat_35 : decode cX9_boat 35 = .ok (.ifCond .ne 12, 3) := by decide +kernel
theorem dX9_boat_38 : decode cX9_boat 38 = .ok (.aload_n 0, 1) := by decide +kernel
theorem dX9_boat_39 : decode cX9_boat 39 = .ok (.getfield 52, 3) := by decide +kernel
theorem dX9_boat_42 : decode cX9_boat 42 = .ok (.iload_n 1, 1) := by decide +kernel
theorem dX9_boat_43 : decode cX9_boat 43 = .ok (.iaload, 1) := by decide +kernel
theorem dX9_boat_44 : decode cX9_boat 44 = .ok (.goto 49, 3) := by decide +kernel
theorem dX9_boat_47 : decode cX9_boat 47 = .ok (.iload_n 2, 1) := by decide +kernel
theorem dX9_boat_48 : decode cX9_boat 48 = .ok (.iconst 1, 1) := by decide +kernel
theorem dX9_boat_49 : decode cX9_boat 49 = .ok (.if_icmp .ne 12, 3) := by decide +kernel
theorem dX9_boat_52 : decode cX9_boat 52 = .ok (.aload_n 0, 1) := by decide +kernel
theorem dX9_boat_53 : decode cX9_boat 53 = .ok (.getfield 55, 3) := by decide +kernel
theorem dX9_boat_56 : decode cX9_boat 56 = .ok (.iload_n 1, 1) := by decide +kernel
theorem dX9_boat_57 : decode cX9_boat 57 = .ok (.iaload, 1) := by decide +kernel
theorem dX9_boat_58 : decode cX9_boat 58 = .ok (.goto 35, 3) := by decide +kernel
theorem dX9_boat_61 : decode cX9_boat 61 = .ok (.iload_n 2, 1) := by decide +kernel
theorem dX9_boat_62 : decode cX9_boat 62 = .ok (.iconst 2, 1) := by decide +kernel
theorem dX9_boat_63 : decode cX9_boat 63 = .ok (.if_icmp .ne 11, 3) := by decide +kernel
theorem dX9_boat_66 : decode cX9_boat 66 = .ok (.aload_n 0, 1) := by decide +kernel
theorem dX9_boat_67 : decode cX9_boat 67 = .ok (.iload_n 1, 1) := by decide +kernel
theorem dX9_boat_68 : decode cX9_boat 68 = .ok (.invokevirtual 175, 3) := by decide +kernel
theorem dX9_boat_71 : decode cX9_boat 71 = .ok (.goto 22, 3) := by decide +kernel
theorem dX9_boat_74 : decode cX9_boat 74 = .ok (.iload_n 2, 1) := by decide +kernel
theorem dX9_boat_75 : decode cX9_boat 75 = .ok (.iconst 3, 1) := by decide +kernel
theorem dX9_boat_76 : decode cX9_boat 76 = .ok (.if_icmp .ne 12, 3) := by decide +kernel
theorem dX9_boat_79 : decode cX9_boat 79 = .ok (.aload_n 0, 1) := by decide +kernel
theorem dX9_boat_80 : decode cX9_boat 80 = .ok (.getfield 58, 3) := by decide +kernel
theorem dX9_boat_83 : decode cX9_boat 83 = .ok (.iload_n 1, 1) := by decide +kernel
theorem dX9_boat_84 : decode cX9_boat 84 = .ok (.iaload, 1) := by decide +kernel
theorem dX9_boat_85 : decode cX9_boat 85 = .ok (.goto 8, 3) := by decide +kernel
theorem dX9_boat_88 : decode cX9_boat 88 = .ok (.aload_n 0, 1) := by decide +kernel
theorem dX9_boat_89 : decode cX9_boat 89 = .ok (.iload_n 1, 1) := by decide +kernel
theorem dX9_boat_90 : decode cX9_boat 90 = .ok (.invokevirtual 300, 3) := by decide +kernel
theorem dX9_boat_93 : decode cX9_boat 93 = .ok (.ireturn, 1) := by decide +kernel
theorem dX9_isOver_0 : decode cX9_isOver 0 = .ok (.aload_n 0, 1) := by decide +kernel
theorem dX9_isOver_1 : decode cX9_isOver 1 = .ok (.getfield 34, 3) := by decide +kernel
theorem dX9_isOver_4 : decode cX9_isOver 4 = .ok (.iload_n 1, 1) := by decide +kernel
theorem dX9_isOver_5 : decode cX9_isOver 5 = .ok (.iaload, 1) := by decide +kernel
theorem dX9_isOver_6 : decode cX9_isOver 6 = .ok (.istore_n 2, 1) := by decide +kernel
theorem dX9_isOver_7 : decode cX9_isOver 7 = .ok (.aload_n 0, 1) := by decide +kernel
theorem dX9_isOver_8 : decode cX9_isOver 8 = .ok (.getfield 31, 3) := by decide +kernel
theorem dX9_isOver_11 : decode cX9_isOver 11 = .ok (.iload_n 1, 1) := by decide +kernel
theorem dX9_isOver_12 : decode cX9_isOver 12 = .ok (.iconst 2, 1) := by decide +kernel
