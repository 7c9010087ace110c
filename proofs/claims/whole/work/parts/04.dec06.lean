theorem dX9_isOver_13 : decode cX9_isOver 13 = .ok (.iastore, 1) := by decide +kernel
theorem dX9_isOver_14 : decode cX9_isOver 14 = .ok (.aload_n 0, 1) := by decide +kernel
theorem dX9_isOver_15 : decode cX9_isOver 15 = .ok (.getfield 49, 3) := by decide +kernel
theorem dX9_isOver_18 : decode cX9_isOver 18 = .ok (.iload_n 2, 1) := by decide +kernel
theorem dX9_isOver_19 : decode cX9_isOver 19 = .ok (.dup2, 1) := by decide +kernel
theorem dX9_isOver_20 : decode cX9_isOver 20 = .ok (.iaload, 1) := by decide +kernel
theorem dX9_isOver_21 : decode cX9_isOver 21 = .ok (.iconst 1, 1) := by decide +kernel
theorem dX9_isOver_22 : decode cX9_isOver 22 = .ok (.iadd, 1) := by decide +kernel
theorem dX9_isOver_23 : decode cX9_isOver 23 = .ok (.iastore, 1) := by decide +kernel
theorem dX9_isOver_24 : decode cX9_isOver 24 = .ok (.aload_n 0, 1) := by decide +kernel
theorem dX9_isOver_25 : decode cX9_isOver 25 = .ok (.getfield 16, 3) := by decide +kernel
theorem dX9_isOver_28 : decode cX9_isOver 28 = .ok (.iload_n 1, 1) := by decide +kernel
theorem dX9_isOver_29 : decode cX9_isOver 29 = .ok (.iaload, 1) := by decide +kernel
theorem dX9_isOver_30 : decode cX9_isOver 30 = .ok (.aload_n 0, 1) := by decide +kernel
theorem dX9_isOver_31 : decode cX9_isOver 31 = .ok (.getfield 43, 3) := by decide +kernel
theorem dX9_isOver_34 : decode cX9_isOver 34 = .ok (.iload_n 2, 1) := by decide +kernel
theorem dX9_isOver_35 : decode cX9_isOver 35 = .ok (.iaload, 1) := by decide +kernel
theorem dX9_isOver_36 : decode cX9_isOver 36 = .ok (.if_icmp .eq 4, 3) := by decide +kernel
theorem dX9_isOver_39 : decode cX9_isOver 39 = .ok (.return_, 1) := by decide +kernel
theorem dX9_isOver_40 : decode cX9_isOver 40 = .ok (.aload_n 0, 1) := by decide +kernel
theorem dX9_isOver_41 : decode cX9_isOver 41 = .ok (.getfield 46, 3) := by decide +kernel
theorem dX9_isOver_44 : decode cX9_isOver 44 = .ok (.iload_n 2, 1) := by decide +kernel
theorem dX9_isOver_45 : decode cX9_isOver 45 = .ok (.dup2, 1) := by decide +kernel
theorem dX9_isOver_46 : decode cX9_isOver 46 = .ok (.iaload, 1) := by decide +kernel
theorem dX9_isOver_47 : decode cX9_isOver 47 = .ok (.iconst 1, 1) := by decide +kernel
theorem dX9_isOver_48 : decode cX9_isOver 48 = .ok (.iadd, 1) := by decide +kernel
theorem dX9_isOver_49 : decode cX9_isOver 49 = .ok (.iastore, 1) := by decide +kernel
theorem dX9_isOver_50 : decode cX9_isOver 50 = .ok (.aload_n 0, 1) := by decide +kernel
theorem dX9_isOver_51 : decode cX9_isOver 51 = .ok (.getfield 43, 3) := by decide +kernel
theorem dX9_isOver_54 : decode cX9_isOver 54 = .ok (.iload_n 2, 1) := by decide +kernel
theorem dX9_isOver_55 : decode cX9_isOver 55 = .ok (.iaload, 1) := by decide +kernel
theorem dX9_isOver_56 : decode cX9_isOver 56 = .ok (.iconst 4, 1) := by decide +kernel
theorem dX9_isOver_57 : decode cX9_isOver 57 = .ok (.if_icmp .eq 18, 3) := by decide +kernel
theorem dX9_isOver_60 : decode cX9_isOver 60 = .ok (.aload_n 0, 1) := by decide +kernel
theorem dX9_isOver_61 : decode cX9_isOver 61 = .ok (.getfield 46, 3) := by decide +kernel
theorem dX9_isOver_64 : decode cX9_isOver 64 = .ok (.iload_n 2, 1) := by decide +kernel
theorem dX9_isOver_65 : decode cX9_isOver 65 = .ok (.iaload, 1) := by decide +kernel
theorem dX9_isOver_66 : decode cX9_isOver 66 = .ok (.aload_n 0, 1) := by decide +kernel
theorem dX9_isOver_67 : decode cX9_isOver 67 = .ok (.getfield 7, 3) := by decide +kernel
theorem dX9_isOver_70 : decode cX9_isOver 70 = .ok (.iconst 2, 1) := by decide +kernel
theorem dX9_isOver_71 : decode cX9_isOver 71 = .ok (.iaload, 1) := by decide +kernel
theorem dX9_isOver_72 : decode cX9_isOver 72 = .ok (.if_icmp .ge 4, 3) := by decide +kernel
theorem dX9_isOver_75 : decode cX9_isOver 75 = .ok (.return_, 1) := by decide +kernel
theorem dX9_isOver_76 : decode cX9_isOver 76 = .ok (.aload_n 0, 1) := by decide +kernel
theorem dX9_isOver_77 : decode cX9_isOver 77 = .ok (.getfield 43, 3) := by decide +kernel
theorem dX9_isOver_80 : decode cX9_isOver 80 = .ok (.iload_n 2, 1) := by decide +kernel
theorem dX9_isOver_81 : decode cX9_isOver 81 = .ok (.dup2, 1) := by decide +kernel
theorem dX9_isOver_82 : decode cX9_isOver 82 = .ok (.iaload, 1) := by decide +kernel
theorem dX9_isOver_83 : decode cX9_isOver 83 = .ok (.iconst 1, 1) := by decide +kernel
theorem dX9_isOver_84 : decode cX9_isOver 84 = .ok (.iadd, 1) := by decide +kernel
theorem dX9_isOver_85 : decode cX9_isOver 85 = .ok (.iastore, 1) := by decide +kernel
theorem dX9_isOver_86 : decode cX9_isOver 86 = .ok (.aload_n 0, 1) := by decide +kernel
theorem dX9_isOver_87 : decode cX9_isOver 87 = .ok (.getfield 46, 3) := by decide +kernel
theorem dX9_isOver_90 : decode cX9_isOver 90 = .ok (.iload_n 2, 1) := by decide +kernel
theorem dX9_isOver_91 : decode cX9_isOver 91 = .ok (.iconst 0, 1) := by decide +kernel
theorem dX9_isOver_92 : decode cX9_isOver 92 = .ok (.iastore, 1) := by decide +kernel
theorem dX9_isOver_93 : decode cX9_isOver 93 = .ok (.return_, 1) := by decide +kernel
theorem dX9_nextOver_0 : decode cX9_nextOver 0 = .ok (.iconst (-1), 1) := by decide +kernel
theorem dX9_nextOver_1 : decode cX9_nextOver 1 = .ok (.istore_n 1, 1) := by decide +kernel
theorem dX9_nextOver_2 : decode cX9_nextOver 2 = .ok (.iconst 0, 1) := by decide +kernel
theorem dX9_nextOver_3 : decode cX9_nextOver 3 = .ok (.istore_n 2, 1) := by decide +kernel
theorem dX9_nextOver_4 : decode cX9_nextOver 4 = .ok (.iload_n 2, 1) := by decide +kernel
theorem dX9_nextOver_5 : decode cX9_nextOver 5 = .ok (.aload_n 0, 1) := by decide +kernel
theorem dX9_nextOver_6 : decode cX9_nextOver 6 = .ok (.getfield 100, 3) := by decide +kernel
theorem dX9_nextOver_9 : decode cX9_nextOver 9 = .ok (.if_icmp .ge 50, 3) := by decide +kernel
theorem dX9_nextOver_12 : decode cX9_nextOver 12 = .ok (.aload_n 0, 1) := by decide +kernel
theorem dX9_nextOver_13 : decode cX9_nextOver 13 = .ok (.getfield 31, 3) := by decide +kernel
theorem dX9_nextOver_16 : decode cX9_nextOver 16 = .ok (.iload_n 2, 1) := by decide +kernel
theorem dX9_nextOver_17 : decode cX9_nextOver 17 = .ok (.iaload, 1) := by decide +kernel
theorem dX9_nextOver_18 : decode cX9_nextOver 18 = .ok (.iconst 1, 1) := by decide +kernel
theorem dX9_nextOver_19 : decode cX9_nextOver 19 = .ok (.if_icmp .ne 34, 3) := by decide +kernel
theorem dX9_nextOver_22 : decode cX9_nextOver 22 = .ok (.aload_n 0, 1) := by decide +kernel
theorem dX9_nextOver_23 : decode cX9_nextOver 23 = .ok (.iload_n 2, 1) := by decide +kernel
theorem dX9_nextOver_24 : decode cX9_nextOver 24 = .ok (.invokevirtual 127, 3) := by decide +kernel
theorem dX9_nextOver_27 : decode cX9_nextOver 27 = .ok (.aload_n 0, 1) := by decide +kernel
theorem dX9_nextOver_28 : decode cX9_nextOver 28 = .ok (.getfield 155, 3) := by decide +kernel
theorem dX9_nextOver_31 : decode cX9_nextOver 31 = .ok (.if_icmp .gt 22, 3) := by decide +kernel
theorem dX9_nextOver_34 : decode cX9_nextOver 34 = .ok (.iload_n 1, 1) := by decide +kernel
theorem dX9_nextOver_35 : decode cX9_nextOver 35 = .ok (.ifCond .lt 16, 3) := by decide +kernel
theorem dX9_nextOver_38 : decode cX9_nextOver 38 = .ok (.aload_n 0, 1) := by decide +kernel
theorem dX9_nextOver_39 : decode cX9_nextOver 39 = .ok (.iload_n 2, 1) := by decide +kernel
theorem dX9_nextOver_40 : decode cX9_nextOver 40 = .ok (.invokevirtual 127, 3) := by decide +kernel
theorem dX9_nextOver_43 : decode cX9_nextOver 43 = .ok (.aload_n 0, 1) := by decide +kernel
theorem dX9_nextOver_44 : decode cX9_nextOver 44 = .ok (.iload_n 1, 1) := by decide +kernel
theorem dX9_nextOver_45 : decode cX9_nextOver 45 = .ok (.invokevirtual 127, 3) := by decide +kernel
theorem dX9_nextOver_48 : decode cX9_nextOver 48 = .ok (.if_icmp .ge 5, 3) := by decide +kernel
theorem dX9_nextOver_51 : decode cX9_nextOver 51 = .ok (.iload_n 2, 1) := by decide +kernel
theorem dX9_nextOver_52 : decode cX9_nextOver 52 = .ok (.istore_n 1, 1) := by decide +kernel
theorem dX9_nextOver_53 : decode cX9_nextOver 53 = .ok (.iinc 2 1, 3) := by decide +kernel
theorem dX9_nextOver_56 : decode cX9_nextOver 56 = .ok (.goto (-52), 3) := by decide +kernel
theorem dX9_nextOver_59 : decode cX9_nextOver 59 = .ok (.iload_n 1, 1) := by decide +kernel
theorem dX9_nextOver_60 : decode cX9_nextOver 60 = .ok (.ireturn, 1) := by decide +kernel
theorem dX9_passes_0 : decode cX9_passes 0 = .ok (.aload_n 0, 1) := by decide +kernel
theorem dX9_passes_1 : decode cX9_passes 1 = .ok (.dup, 1) := by decide +kernel
theorem dX9_passes_2 : decode cX9_passes 2 = .ok (.getfield 155, 3) := by decide +kernel
theorem dX9_passes_5 : decode cX9_passes 5 = .ok (.iload_n 1, 1) := by decide +kernel
theorem dX9_passes_6 : decode cX9_passes 6 = .ok (.iadd, 1) := by decide +kernel
theorem dX9_passes_7 : decode cX9_passes 7 = .ok (.putfield 155, 3) := by decide +kernel
theorem dX9_passes_10 : decode cX9_passes 10 = .ok (.aload_n 0, 1) := by decide +kernel
theorem dX9_passes_11 : decode cX9_passes 11 = .ok (.invokevirtual 303, 3) := by decide +kernel
theorem dX9_passes_14 : decode cX9_passes 14 = .ok (.istore_n 2, 1) := by decide +kernel
theorem dX9_passes_15 : decode cX9_passes 15 = .ok (.iload_n 2, 1) := by decide +kernel
theorem dX9_passes_16 : decode cX9_passes 16 = .ok (.ifCond .lt 16, 3) := by decide +kernel
theorem dX9_passes_19 : decode cX9_passes 19 = .ok (.aload_n 0, 1) := by decide +kernel
theorem dX9_passes_20 : decode cX9_passes 20 = .ok (.iload_n 2, 1) := by decide +kernel
theorem dX9_passes_21 : decode cX9_passes 21 = .ok (.invokevirtual 307, 3) := by decide +kernel
theorem dX9_passes_24 : decode cX9_passes 24 = .ok (.aload_n 0, 1) := by decide +kernel
theorem dX9_passes_25 : decode cX9_passes 25 = .ok (.invokevirtual 303, 3) := by decide +kernel
theorem dX9_passes_28 : decode cX9_passes 28 = .ok (.istore_n 2, 1) := by decide +kernel
theorem dX9_passes_29 : decode cX9_passes 29 = .ok (.goto (-14), 3) := by decide +kernel
theorem dX9_passes_32 : decode cX9_passes 32 = .ok (.iconst 0, 1) := by decide +kernel
theorem dX9_passes_33 : decode cX9_passes 33 = .ok (.istore_n 2, 1) := by decide +kernel
theorem dX9_passes_34 : decode cX9_passes 34 = .ok (.iconst 0, 1) := by decide +kernel
theorem dX9_passes_35 : decode cX9_passes 35 = .ok (.istore_n 3, 1) := by decide +kernel
theorem dX9_passes_36 : decode cX9_passes 36 = .ok (.iload_n 3, 1) := by decide +kernel
theorem dX9_passes_37 : decode cX9_passes 37 = .ok (.aload_n 0, 1) := by decide +kernel
theorem dX9_passes_38 : decode cX9_passes 38 = .ok (.getfield 100, 3) := by decide +kernel
theorem dX9_passes_41 : decode cX9_passes 41 = .ok (.if_icmp .ge 44, 3) := by decide +kernel
theorem dX9_passes_44 : decode cX9_passes 44 = .ok (.aload_n 0, 1) := by decide +kernel
theorem dX9_passes_45 : decode cX9_passes 45 = .ok (.getfield 31, 3) := by decide +kernel
theorem dX9_passes_48 : decode cX9_passes 48 = .ok (.iload_n 3, 1) := by decide +kernel
theorem dX9_passes_49 : decode cX9_passes 49 = .ok (.iaload, 1) := by decide +kernel
theorem dX9_passes_50 : decode cX9_passes 50 = .ok (.ifCond .ne 29, 3) := by decide +kernel
theorem dX9_passes_53 : decode cX9_passes 53 = .ok (.aload_n 0, 1) := by decide +kernel
theorem dX9_passes_54 : decode cX9_passes 54 = .ok (.getfield 28, 3) := by decide +kernel
theorem dX9_passes_57 : decode cX9_passes 57 = .ok (.iload_n 3, 1) := by decide +kernel
theorem dX9_passes_58 : decode cX9_passes 58 = .ok (.iaload, 1) := by decide +kernel
theorem dX9_passes_59 : decode cX9_passes 59 = .ok (.aload_n 0, 1) := by decide +kernel
theorem dX9_passes_60 : decode cX9_passes 60 = .ok (.getfield 155, 3) := by decide +kernel
theorem dX9_passes_63 : decode cX9_passes 63 = .ok (.if_icmp .lt 6, 3) := by decide +kernel
theorem dX9_passes_66 : decode cX9_passes 66 = .ok (.goto 13, 3) := by decide +kernel
theorem dX9_passes_69 : decode cX9_passes 69 = .ok (.aload_n 0, 1) := by decide +kernel
theorem dX9_passes_70 : decode cX9_passes 70 = .ok (.getfield 31, 3) := by decide +kernel
theorem dX9_passes_73 : decode cX9_passes 73 = .ok (.iload_n 3, 1) := by decide +kernel
theorem dX9_passes_74 : decode cX9_passes 74 = .ok (.iconst 3, 1) := by decide +kernel
theorem dX9_passes_75 : decode cX9_passes 75 = .ok (.iastore, 1) := by decide +kernel
theorem dX9_passes_76 : decode cX9_passes 76 = .ok (.iinc 2 1, 3) := by decide +kernel
theorem dX9_passes_79 : decode cX9_passes 79 = .ok (.iinc 3 1, 3) := by decide +kernel
theorem dX9_passes_82 : decode cX9_passes 82 = .ok (.goto (-46), 3) := by decide +kernel
theorem dX9_passes_85 : decode cX9_passes 85 = .ok (.iload_n 2, 1) := by decide +kernel
theorem dX9_passes_86 : decode cX9_passes 86 = .ok (.ireturn, 1) := by decide +kernel
theorem dX9_pass_0 : decode cX9_pass 0 = .ok (.iload_n 1, 1) := by decide +kernel
theorem dX9_pass_1 : decode cX9_pass 1 = .ok (.iconst 0, 1) := by decide +kernel
theorem dX9_pass_2 : decode cX9_pass 2 = .ok (.bipush 48, 2) := by decide +kernel
theorem dX9_pass_4 : decode cX9_pass 4 = .ok (.invokestatic 90, 3) := by decide +kernel
theorem dX9_pass_7 : decode cX9_pass 7 = .ok (.ifCond .ne 9, 3) := by decide +kernel
theorem dX9_pass_10 : decode cX9_pass 10 = .ok (.aload_n 0, 1) := by decide +kernel
theorem dX9_pass_11 : decode cX9_pass 11 = .ok (.iconst 1, 1) := by decide +kernel
theorem dX9_pass_12 : decode cX9_pass 12 = .ok (.invokevirtual 220, 3) := by decide +kernel
theorem dX9_pass_15 : decode cX9_pass 15 = .ok (.ireturn, 1) := by decide +kernel
theorem dX9_pass_16 : decode cX9_pass 16 = .ok (.aload_n 0, 1) := by decide +kernel
theorem dX9_pass_17 : decode cX9_pass 17 = .ok (.getfield 155, 3) := by decide +kernel
theorem dX9_pass_20 : decode cX9_pass 20 = .ok (.iload_n 1, 1) := by decide +kernel
theorem dX9_pass_21 : decode cX9_pass 21 = .ok (.iadd, 1) := by decide +kernel
theorem dX9_pass_22 : decode cX9_pass 22 = .ok (.sipush 999, 3) := by decide +kernel
theorem dX9_pass_25 : decode cX9_pass 25 = .ok (.if_icmp .le 9, 3) := by decide +kernel
theorem dX9_pass_28 : decode cX9_pass 28 = .ok (.aload_n 0, 1) := by decide +kernel
theorem dX9_pass_29 : decode cX9_pass 29 = .ok (.iconst 2, 1) := by decide +kernel
theorem dX9_pass_30 : decode cX9_pass 30 = .ok (.invokevirtual 220, 3) := by decide +kernel
theorem dX9_pass_33 : decode cX9_pass 33 = .ok (.ireturn, 1) := by decide +kernel
theorem dX9_pass_34 : decode cX9_pass 34 = .ok (.aload_n 0, 1) := by decide +kernel
theorem dX9_pass_35 : decode cX9_pass 35 = .ok (.iconst 0, 1) := by decide +kernel
theorem dX9_pass_36 : decode cX9_pass 36 = .ok (.putfield 87, 3) := by decide +kernel
theorem dX9_pass_39 : decode cX9_pass 39 = .ok (.aload_n 0, 1) := by decide +kernel
theorem dX9_pass_40 : decode cX9_pass 40 = .ok (.invokevirtual 223, 3) := by decide +kernel
theorem dX9_pass_43 : decode cX9_pass 43 = .ok (.aload_n 0, 1) := by decide +kernel
theorem dX9_pass_44 : decode cX9_pass 44 = .ok (.iload_n 1, 1) := by decide +kernel
theorem dX9_pass_45 : decode cX9_pass 45 = .ok (.invokevirtual 310, 3) := by decide +kernel
theorem dX9_pass_48 : decode cX9_pass 48 = .ok (.ireturn, 1) := by decide +kernel
theorem dX9_inState_0 : decode cX9_inState 0 = .ok (.iconst 0, 1) := by decide +kernel
theorem dX9_inState_1 : decode cX9_inState 1 = .ok (.istore_n 2, 1) := by decide +kernel
theorem dX9_inState_2 : decode cX9_inState 2 = .ok (.iconst 0, 1) := by decide +kernel
theorem dX9_inState_3 : decode cX9_inState 3 = .ok (.istore_n 3, 1) := by decide +kernel
theorem dX9_inState_4 : decode cX9_inState 4 = .ok (.iload_n 3, 1) := by decide +kernel
theorem dX9_inState_5 : decode cX9_inState 5 = .ok (.aload_n 0, 1) := by decide +kernel
theorem dX9_inState_6 : decode cX9_inState 6 = .ok (.getfield 100, 3) := by decide +kernel
theorem dX9_inState_9 : decode cX9_inState 9 = .ok (.if_icmp .ge 27, 3) := by decide +kernel
theorem dX9_inState_12 : decode cX9_inState 12 = .ok (.iload_n 2, 1) := by decide +kernel
theorem dX9_inState_13 : decode cX9_inState 13 = .ok (.aload_n 0, 1) := by decide +kernel
theorem dX9_inState_14 : decode cX9_inState 14 = .ok (.getfield 31, 3) := by decide +kernel
theorem dX9_inState_17 : decode cX9_inState 17 = .ok (.iload_n 3, 1) := by decide +kernel
theorem dX9_inState_18 : decode cX9_inState 18 = .ok (.iaload, 1) := by decide +kernel
theorem dX9_inState_19 : decode cX9_inState 19 = .ok (.iload_n 1, 1) := by decide +kernel
theorem dX9_inState_20 : decode cX9_inState 20 = .ok (.if_icmp .ne 7, 3) := by decide +kernel
theorem dX9_inState_23 : decode cX9_inState 23 = .ok (.iconst 1, 1) := by decide +kernel
theorem dX9_inState_24 : decode cX9_inState 24 = .ok (.goto 4, 3) := by decide +kernel
theorem dX9_inState_27 : decode cX9_inState 27 = .ok (.iconst 0, 1) := by decide +kernel
theorem dX9_inState_28 : decode cX9_inState 28 = .ok (.iadd, 1) := by decide +kernel
theorem dX9_inState_29 : decode cX9_inState 29 = .ok (.istore_n 2, 1) := by decide +kernel
theorem dX9_inState_30 : decode cX9_inState 30 = .ok (.iinc 3 1, 3) := by decide +kernel
theorem dX9_inState_33 : decode cX9_inState 33 = .ok (.goto (-29), 3) := by decide +kernel
theorem dX9_inState_36 : decode cX9_inState 36 = .ok (.iload_n 2, 1) := by decide +kernel
theorem dX9_inState_37 : decode cX9_inState 37 = .ok (.ireturn, 1) := by decide +kernel
theorem dX9_overPilots_0 : decode cX9_overPilots 0 = .ok (.iconst 0, 1) := by decide +kernel
theorem dX9_overPilots_1 : decode cX9_overPilots 1 = .ok (.istore_n 2, 1) := by decide +kernel
theorem dX9_overPilots_2 : decode cX9_overPilots 2 = .ok (.iconst 0, 1) := by decide +kernel
theorem dX9_overPilots_3 : decode cX9_overPilots 3 = .ok (.istore_n 3, 1) := by decide +kernel
theorem dX9_overPilots_4 : decode cX9_overPilots 4 = .ok (.iload_n 3, 1) := by decide +kernel
theorem dX9_overPilots_5 : decode cX9_overPilots 5 = .ok (.aload_n 0, 1) := by decide +kernel
theorem dX9_overPilots_6 : decode cX9_overPilots 6 = .ok (.getfield 94, 3) := by decide +kernel
theorem dX9_overPilots_9 : decode cX9_overPilots 9 = .ok (.if_icmp .ge 57, 3) := by decide +kernel
theorem dX9_overPilots_12 : decode cX9_overPilots 12 = .ok (.iload_n 2, 1) := by decide +kernel
theorem dX9_overPilots_13 : decode cX9_overPilots 13 = .ok (.iload_n 1, 1) := by decide +kernel
theorem dX9_overPilots_14 : decode cX9_overPilots 14 = .ok (.bipush 8, 2) := by decide +kernel
theorem dX9_overPilots_16 : decode cX9_overPilots 16 = .ok (.if_icmp .ne 11, 3) := by decide +kernel
theorem dX9_overPilots_19 : decode cX9_overPilots 19 = .ok (.aload_n 0, 1) := by decide +kernel
theorem dX9_overPilots_20 : decode cX9_overPilots 20 = .ok (.iload_n 3, 1) := by decide +kernel
theorem dX9_overPilots_21 : decode cX9_overPilots 21 = .ok (.invokevirtual 270, 3) := by decide +kernel
theorem dX9_overPilots_24 : decode cX9_overPilots 24 = .ok (.goto 34, 3) := by decide +kernel
theorem dX9_overPilots_27 : decode cX9_overPilots 27 = .ok (.iload_n 1, 1) := by decide +kernel
theorem dX9_overPilots_28 : decode cX9_overPilots 28 = .ok (.bipush 9, 2) := by decide +kernel
theorem dX9_overPilots_30 : decode cX9_overPilots 30 = .ok (.if_icmp .ne 11, 3) := by decide +kernel
theorem dX9_overPilots_33 : decode cX9_overPilots 33 = .ok (.aload_n 0, 1) := by decide +kernel
theorem dX9_overPilots_34 : decode cX9_overPilots 34 = .ok (.iload_n 3, 1) := by decide +kernel
theorem dX9_overPilots_35 : decode cX9_overPilots 35 = .ok (.invokevirtual 276, 3) := by decide +kernel
theorem dX9_overPilots_38 : decode cX9_overPilots 38 = .ok (.goto 20, 3) := by decide +kernel
theorem dX9_overPilots_41 : decode cX9_overPilots 41 = .ok (.aload_n 0, 1) := by decide +kernel
theorem dX9_overPilots_42 : decode cX9_overPilots 42 = .ok (.iload_n 3, 1) := by decide +kernel
theorem dX9_overPilots_43 : decode cX9_overPilots 43 = .ok (.aload_n 0, 1) := by decide +kernel
theorem dX9_overPilots_44 : decode cX9_overPilots 44 = .ok (.getfield 155, 3) := by decide +kernel
theorem dX9_overPilots_47 : decode cX9_overPilots 47 = .ok (.invokevirtual 297, 3) := by decide +kernel
theorem dX9_overPilots_50 : decode cX9_overPilots 50 = .ok (.ifCond .ge 7, 3) := by decide +kernel
theorem dX9_overPilots_53 : decode cX9_overPilots 53 = .ok (.iconst 1, 1) := by decide +kernel
theorem dX9_overPilots_54 : decode cX9_overPilots 54 = .ok (.goto 4, 3) := by decide +kernel
theorem dX9_overPilots_57 : decode cX9_overPilots 57 = .ok (.iconst 0, 1) := by decide +kernel
theorem dX9_overPilots_58 : decode cX9_overPilots 58 = .ok (.iadd, 1) := by decide +kernel
theorem dX9_overPilots_59 : decode cX9_overPilots 59 = .ok (.istore_n 2, 1) := by decide +kernel
theorem dX9_overPilots_60 : decode cX9_overPilots 60 = .ok (.iinc 3 1, 3) := by decide +kernel
theorem dX9_overPilots_63 : decode cX9_overPilots 63 = .ok (.goto (-59), 3) := by decide +kernel
theorem dX9_overPilots_66 : decode cX9_overPilots 66 = .ok (.iload_n 2, 1) := by decide +kernel
theorem dX9_overPilots_67 : decode cX9_overPilots 67 = .ok (.ireturn, 1) := by decide +kernel
theorem dX9_allPutOffs_0 : decode cX9_allPutOffs 0 = .ok (.iconst 0, 1) := by decide +kernel
theorem dX9_allPutOffs_1 : decode cX9_allPutOffs 1 = .ok (.istore_n 1, 1) := by decide +kernel
theorem dX9_allPutOffs_2 : decode cX9_allPutOffs 2 = .ok (.iconst 0, 1) := by decide +kernel
theorem dX9_allPutOffs_3 : decode cX9_allPutOffs 3 = .ok (.istore_n 2, 1) := by decide +kernel
theorem dX9_allPutOffs_4 : decode cX9_allPutOffs 4 = .ok (.iload_n 2, 1) := by decide +kernel
theorem dX9_allPutOffs_5 : decode cX9_allPutOffs 5 = .ok (.aload_n 0, 1) := by decide +kernel
theorem dX9_allPutOffs_6 : decode cX9_allPutOffs 6 = .ok (.getfield 100, 3) := by decide +kernel
theorem dX9_allPutOffs_9 : decode cX9_allPutOffs 9 = .ok (.if_icmp .ge 18, 3) := by decide +kernel
theorem dX9_allPutOffs_12 : decode cX9_allPutOffs 12 = .ok (.iload_n 1, 1) := by decide +kernel
theorem dX9_allPutOffs_13 : decode cX9_allPutOffs 13 = .ok (.aload_n 0, 1) := by decide +kernel
theorem dX9_allPutOffs_14 : decode cX9_allPutOffs 14 = .ok (.getfield 40, 3) := by decide +kernel
theorem dX9_allPutOffs_17 : decode cX9_allPutOffs 17 = .ok (.iload_n 2, 1) := by decide +kernel
theorem dX9_allPutOffs_18 : decode cX9_allPutOffs 18 = .ok (.iaload, 1) := by decide +kernel
theorem dX9_allPutOffs_19 : decode cX9_allPutOffs 19 = .ok (.iadd, 1) := by decide +kernel
theorem dX9_allPutOffs_20 : decode cX9_allPutOffs 20 = .ok (.istore_n 1, 1) := by decide +kernel
theorem dX9_allPutOffs_21 : decode cX9_allPutOffs 21 = .ok (.iinc 2 1, 3) := by decide +kernel
theorem dX9_allPutOffs_24 : decode cX9_allPutOffs 24 = .ok (.goto (-20), 3) := by decide +kernel
theorem dX9_allPutOffs_27 : decode cX9_allPutOffs 27 = .ok (.iload_n 1, 1) := by decide +kernel
theorem dX9_allPutOffs_28 : decode cX9_allPutOffs 28 = .ok (.ireturn, 1) := by decide +kernel
theorem dX9_number_0 : decode cX9_number 0 = .ok (.iload_n 1, 1) := by decide +kernel
theorem dX9_number_1 : decode cX9_number 1 = .ok (.iconst 0, 1) := by decide +kernel
theorem dX9_number_2 : decode cX9_number 2 = .ok (.bipush 13, 2) := by decide +kernel
theorem dX9_number_4 : decode cX9_number 4 = .ok (.invokestatic 90, 3) := by decide +kernel
theorem dX9_number_7 : decode cX9_number 7 = .ok (.ifCond .ne 31, 3) := by decide +kernel
theorem dX9_number_10 : decode cX9_number 10 = .ok (.iload_n 1, 1) := by decide +kernel
theorem dX9_number_11 : decode cX9_number 11 = .ok (.bipush 20, 2) := by decide +kernel
theorem dX9_number_13 : decode cX9_number 13 = .ok (.bipush 24, 2) := by decide +kernel
theorem dX9_number_15 : decode cX9_number 15 = .ok (.invokestatic 90, 3) := by decide +kernel
theorem dX9_number_18 : decode cX9_number 18 = .ok (.ifCond .ne 20, 3) := by decide +kernel
theorem dX9_number_21 : decode cX9_number 21 = .ok (.iload_n 1, 1) := by decide +kernel
theorem dX9_number_22 : decode cX9_number 22 = .ok (.bipush 30, 2) := by decide +kernel
theorem dX9_number_24 : decode cX9_number 24 = .ok (.bipush 41, 2) := by decide +kernel
theorem dX9_number_26 : decode cX9_number 26 = .ok (.invokestatic 90, 3) := by decide +kernel
theorem dX9_number_29 : decode cX9_number 29 = .ok (.ifCond .ne 9, 3) := by decide +kernel
theorem dX9_number_32 : decode cX9_number 32 = .ok (.aload_n 0, 1) := by decide +kernel
theorem dX9_number_33 : decode cX9_number 33 = .ok (.iconst 1, 1) := by decide +kernel
theorem dX9_number_34 : decode cX9_number 34 = .ok (.invokevirtual 220, 3) := by decide +kernel
theorem dX9_number_37 : decode cX9_number 37 = .ok (.ireturn, 1) := by decide +kernel
theorem dX9_number_38 : decode cX9_number 38 = .ok (.aload_n 0, 1) := by decide +kernel
theorem dX9_number_39 : decode cX9_number 39 = .ok (.iconst 0, 1) := by decide +kernel
theorem dX9_number_40 : decode cX9_number 40 = .ok (.putfield 87, 3) := by decide +kernel
theorem dX9_number_43 : decode cX9_number 43 = .ok (.iload_n 1, 1) := by decide +kernel
theorem dX9_number_44 : decode cX9_number 44 = .ok (.bipush 30, 2) := by decide +kernel
theorem dX9_number_46 : decode cX9_number 46 = .ok (.if_icmp .lt 13, 3) := by decide +kernel
theorem dX9_number_49 : decode cX9_number 49 = .ok (.aload_n 0, 1) := by decide +kernel
theorem dX9_number_50 : decode cX9_number 50 = .ok (.getfield 13, 3) := by decide +kernel
theorem dX9_number_53 : decode cX9_number 53 = .ok (.iload_n 1, 1) := by decide +kernel
theorem dX9_number_54 : decode cX9_number 54 = .ok (.bipush 30, 2) := by decide +kernel
theorem dX9_number_56 : decode cX9_number 56 = .ok (.isub, 1) := by decide +kernel
theorem dX9_number_57 : decode cX9_number 57 = .ok (.iaload, 1) := by decide +kernel
theorem dX9_number_58 : decode cX9_number 58 = .ok (.ireturn, 1) := by decide +kernel
theorem dX9_number_59 : decode cX9_number 59 = .ok (.iload_n 1, 1) := by decide +kernel
theorem dX9_number_60 : decode cX9_number 60 = .ok (.bipush 20, 2) := by decide +kernel
theorem dX9_number_62 : decode cX9_number 62 = .ok (.if_icmp .lt 13, 3) := by decide +kernel
theorem dX9_number_65 : decode cX9_number 65 = .ok (.aload_n 0, 1) := by decide +kernel
theorem dX9_number_66 : decode cX9_number 66 = .ok (.getfield 7, 3) := by decide +kernel
theorem dX9_number_69 : decode cX9_number 69 = .ok (.iload_n 1, 1) := by decide +kernel
theorem dX9_number_70 : decode cX9_number 70 = .ok (.bipush 20, 2) := by decide +kernel
theorem dX9_number_72 : decode cX9_number 72 = .ok (.isub, 1) := by decide +kernel
theorem dX9_number_73 : decode cX9_number 73 = .ok (.iaload, 1) := by decide +kernel
theorem dX9_number_74 : decode cX9_number 74 = .ok (.ireturn, 1) := by decide +kernel
theorem dX9_number_75 : decode cX9_number 75 = .ok (.iload_n 1, 1) := by decide +kernel
theorem dX9_number_76 : decode cX9_number 76 = .ok (.tableswitch 110 0 12 #[68, 68, 68, 68, 74, 79, 84, 89, 94, 94, 100, 94, 105], 68) := by decide +kernel
theorem dX9_number_144 : decode cX9_number 144 = .ok (.aload_n 0, 1) := by decide +kernel
theorem dX9_number_145 : decode cX9_number 145 = .ok (.iload_n 1, 1) := by decide +kernel
theorem dX9_number_146 : decode cX9_number 146 = .ok (.invokevirtual 313, 3) := by decide +kernel
theorem dX9_number_149 : decode cX9_number 149 = .ok (.ireturn, 1) := by decide +kernel
theorem dX9_number_150 : decode cX9_number 150 = .ok (.aload_n 0, 1) := by decide +kernel
theorem dX9_number_151 : decode cX9_number 151 = .ok (.getfield 155, 3) := by decide +kernel
theorem dX9_number_154 : decode cX9_number 154 = .ok (.ireturn, 1) := by decide +kernel
theorem dX9_number_155 : decode cX9_number 155 = .ok (.aload_n 0, 1) := by decide +kernel
theorem dX9_number_156 : decode cX9_number 156 = .ok (.getfield 94, 3) := by decide +kernel
theorem dX9_number_159 : decode cX9_number 159 = .ok (.ireturn, 1) := by decide +kernel
theorem dX9_number_160 : decode cX9_number 160 = .ok (.aload_n 0, 1) := by decide +kernel
theorem dX9_number_161 : decode cX9_number 161 = .ok (.getfield 97, 3) := by decide +kernel
theorem dX9_number_164 : decode cX9_number 164 = .ok (.ireturn, 1) := by decide +kernel
theorem dX9_number_165 : decode cX9_number 165 = .ok (.aload_n 0, 1) := by decide +kernel
theorem dX9_number_166 : decode cX9_number 166 = .ok (.getfield 137, 3) := by decide +kernel
theorem dX9_number_169 : decode cX9_number 169 = .ok (.ireturn, 1) := by decide +kernel
theorem dX9_number_170 : decode cX9_number 170 = .ok (.aload_n 0, 1) := by decide +kernel
theorem dX9_number_171 : decode cX9_number 171 = .ok (.iload_n 1, 1) := by decide +kernel
theorem dX9_number_172 : decode cX9_number 172 = .ok (.invokevirtual 316, 3) := by decide +kernel
theorem dX9_number_175 : decode cX9_number 175 = .ok (.ireturn, 1) := by decide +kernel
theorem dX9_number_176 : decode cX9_number 176 = .ok (.aload_n 0, 1) := by decide +kernel
theorem dX9_number_177 : decode cX9_number 177 = .ok (.invokevirtual 319, 3) := by decide +kernel
theorem dX9_number_180 : decode cX9_number 180 = .ok (.ireturn, 1) := by decide +kernel
theorem dX9_number_181 : decode cX9_number 181 = .ok (.aload_n 0, 1) := by decide +kernel
theorem dX9_number_182 : decode cX9_number 182 = .ok (.getfield 322, 3) := by decide +kernel
theorem dX9_number_185 : decode cX9_number 185 = .ok (.ireturn, 1) := by decide +kernel
theorem dX9_number_186 : decode cX9_number 186 = .ok (.aload_n 0, 1) := by decide +kernel
theorem dX9_number_187 : decode cX9_number 187 = .ok (.getfield 325, 3) := by decide +kernel
theorem dX9_number_190 : decode cX9_number 190 = .ok (.ireturn, 1) := by decide +kernel
theorem dX9_meanWait_0 : decode cX9_meanWait 0 = .ok (.iconst 0, 1) := by decide +kernel
theorem dX9_meanWait_1 : decode cX9_meanWait 1 = .ok (.istore_n 1, 1) := by decide +kernel
theorem dX9_meanWait_2 : decode cX9_meanWait 2 = .ok (.iconst 0, 1) := by decide +kernel
theorem dX9_meanWait_3 : decode cX9_meanWait 3 = .ok (.istore_n 2, 1) := by decide +kernel
theorem dX9_meanWait_4 : decode cX9_meanWait 4 = .ok (.iconst 0, 1) := by decide +kernel
theorem dX9_meanWait_5 : decode cX9_meanWait 5 = .ok (.istore_n 3, 1) := by decide +kernel
theorem dX9_meanWait_6 : decode cX9_meanWait 6 = .ok (.iload_n 3, 1) := by decide +kernel
theorem dX9_meanWait_7 : decode cX9_meanWait 7 = .ok (.aload_n 0, 1) := by decide +kernel
theorem dX9_meanWait_8 : decode cX9_meanWait 8 = .ok (.getfield 100, 3) := by decide +kernel
theorem dX9_meanWait_11 : decode cX9_meanWait 11 = .ok (.if_icmp .ge 39, 3) := by decide +kernel
theorem dX9_meanWait_14 : decode cX9_meanWait 14 = .ok (.aload_n 0, 1) := by decide +kernel
theorem dX9_meanWait_15 : decode cX9_meanWait 15 = .ok (.iload_n 3, 1) := by decide +kernel
theorem dX9_meanWait_16 : decode cX9_meanWait 16 = .ok (.invokevirtual 107, 3) := by decide +kernel
theorem dX9_meanWait_19 : decode cX9_meanWait 19 = .ok (.ifCond .ne 6, 3) := by decide +kernel
theorem dX9_meanWait_22 : decode cX9_meanWait 22 = .ok (.goto 22, 3) := by decide +kernel
theorem dX9_meanWait_25 : decode cX9_meanWait 25 = .ok (.iload_n 1, 1) := by decide +kernel
theorem dX9_meanWait_26 : decode cX9_meanWait 26 = .ok (.aload_n 0, 1) := by decide +kernel
theorem dX9_meanWait_27 : decode cX9_meanWait 27 = .ok (.getfield 37, 3) := by decide +kernel
theorem dX9_meanWait_30 : decode cX9_meanWait 30 = .ok (.iload_n 3, 1) := by decide +kernel
theorem dX9_meanWait_31 : decode cX9_meanWait 31 = .ok (.iaload, 1) := by decide +kernel
theorem dX9_meanWait_32 : decode cX9_meanWait 32 = .ok (.aload_n 0, 1) := by decide +kernel
theorem dX9_meanWait_33 : decode cX9_meanWait 33 = .ok (.getfield 25, 3) := by decide +kernel
theorem dX9_meanWait_36 : decode cX9_meanWait 36 = .ok (.iload_n 3, 1) := by decide +kernel
theorem dX9_meanWait_37 : decode cX9_meanWait 37 = .ok (.iaload, 1) := by decide +kernel
theorem dX9_meanWait_38 : decode cX9_meanWait 38 = .ok (.isub, 1) := by decide +kernel
theorem dX9_meanWait_39 : decode cX9_meanWait 39 = .ok (.iadd, 1) := by decide +kernel
theorem dX9_meanWait_40 : decode cX9_meanWait 40 = .ok (.istore_n 1, 1) := by decide +kernel
theorem dX9_meanWait_41 : decode cX9_meanWait 41 = .ok (.iinc 2 1, 3) := by decide +kernel
theorem dX9_meanWait_44 : decode cX9_meanWait 44 = .ok (.iinc 3 1, 3) := by decide +kernel
theorem dX9_meanWait_47 : decode cX9_meanWait 47 = .ok (.goto (-41), 3) := by decide +kernel
theorem dX9_meanWait_50 : decode cX9_meanWait 50 = .ok (.aload_n 0, 1) := by decide +kernel
theorem dX9_meanWait_51 : decode cX9_meanWait 51 = .ok (.iload_n 2, 1) := by decide +kernel
theorem dX9_meanWait_52 : decode cX9_meanWait 52 = .ok (.ifCond .ne 7, 3) := by decide +kernel
theorem dX9_meanWait_55 : decode cX9_meanWait 55 = .ok (.iconst 1, 1) := by decide +kernel
theorem dX9_meanWait_56 : decode cX9_meanWait 56 = .ok (.goto 4, 3) := by decide +kernel
theorem dX9_meanWait_59 : decode cX9_meanWait 59 = .ok (.iconst 0, 1) := by decide +kernel
theorem dX9_meanWait_60 : decode cX9_meanWait 60 = .ok (.putfield 87, 3) := by decide +kernel
theorem dX9_meanWait_63 : decode cX9_meanWait 63 = .ok (.iload_n 2, 1) := by decide +kernel
theorem dX9_meanWait_64 : decode cX9_meanWait 64 = .ok (.ifCond .ne 7, 3) := by decide +kernel
theorem dX9_meanWait_67 : decode cX9_meanWait 67 = .ok (.dconst 0, 1) := by decide +kernel
theorem dX9_meanWait_68 : decode cX9_meanWait 68 = .ok (.goto 8, 3) := by decide +kernel
theorem dX9_meanWait_71 : decode cX9_meanWait 71 = .ok (.iload_n 1, 1) := by decide +kernel
theorem dX9_meanWait_72 : decode cX9_meanWait 72 = .ok (.i2d, 1) := by decide +kernel
theorem dX9_meanWait_73 : decode cX9_meanWait 73 = .ok (.iload_n 2, 1) := by decide +kernel
theorem dX9_meanWait_74 : decode cX9_meanWait 74 = .ok (.i2d, 1) := by decide +kernel
theorem dX9_meanWait_75 : decode cX9_meanWait 75 = .ok (.ddiv, 1) := by decide +kernel
theorem dX9_meanWait_76 : decode cX9_meanWait 76 = .ok (.dreturn, 1) := by decide +kernel
theorem dX9_hoursBefore_0 : decode cX9_hoursBefore 0 = .ok (.iconst 0, 1) := by decide +kernel
theorem dX9_hoursBefore_1 : decode cX9_hoursBefore 1 = .ok (.istore_n 2, 1) := by decide +kernel
theorem dX9_hoursBefore_2 : decode cX9_hoursBefore 2 = .ok (.iconst 0, 1) := by decide +kernel
theorem dX9_hoursBefore_3 : decode cX9_hoursBefore 3 = .ok (.istore_n 3, 1) := by decide +kernel
theorem dX9_hoursBefore_4 : decode cX9_hoursBefore 4 = .ok (.iload_n 3, 1) := by decide +kernel
theorem dX9_hoursBefore_5 : decode cX9_hoursBefore 5 = .ok (.aload_n 0, 1) := by decide +kernel
theorem dX9_hoursBefore_6 : decode cX9_hoursBefore 6 = .ok (.getfield 100, 3) := by decide +kernel
theorem dX9_hoursBefore_9 : decode cX9_hoursBefore 9 = .ok (.if_icmp .ge 68, 3) := by decide +kernel
theorem dX9_hoursBefore_12 : decode cX9_hoursBefore 12 = .ok (.aload_n 0, 1) := by decide +kernel
theorem dX9_hoursBefore_13 : decode cX9_hoursBefore 13 = .ok (.iload_n 3, 1) := by decide +kernel
theorem dX9_hoursBefore_14 : decode cX9_hoursBefore 14 = .ok (.iload_n 1, 1) := by decide +kernel
theorem dX9_hoursBefore_15 : decode cX9_hoursBefore 15 = .ok (.invokevirtual 124, 3) := by decide +kernel
theorem dX9_hoursBefore_18 : decode cX9_hoursBefore 18 = .ok (.ifCond .eq 53, 3) := by decide +kernel
theorem dX9_hoursBefore_21 : decode cX9_hoursBefore 21 = .ok (.aload_n 0, 1) := by decide +kernel
theorem dX9_hoursBefore_22 : decode cX9_hoursBefore 22 = .ok (.getfield 37, 3) := by decide +kernel
theorem dX9_hoursBefore_25 : decode cX9_hoursBefore 25 = .ok (.iload_n 3, 1) := by decide +kernel
theorem dX9_hoursBefore_26 : decode cX9_hoursBefore 26 = .ok (.iaload, 1) := by decide +kernel
theorem dX9_hoursBefore_27 : decode cX9_hoursBefore 27 = .ok (.aload_n 0, 1) := by decide +kernel
theorem dX9_hoursBefore_28 : decode cX9_hoursBefore 28 = .ok (.getfield 155, 3) := by decide +kernel
theorem dX9_hoursBefore_31 : decode cX9_hoursBefore 31 = .ok (.if_icmp .lt 6, 3) := by decide +kernel
theorem dX9_hoursBefore_34 : decode cX9_hoursBefore 34 = .ok (.goto 37, 3) := by decide +kernel
theorem dX9_hoursBefore_37 : decode cX9_hoursBefore 37 = .ok (.iload_n 2, 1) := by decide +kernel
theorem dX9_hoursBefore_38 : decode cX9_hoursBefore 38 = .ok (.aload_n 0, 1) := by decide +kernel
theorem dX9_hoursBefore_39 : decode cX9_hoursBefore 39 = .ok (.iload_n 3, 1) := by decide +kernel
theorem dX9_hoursBefore_40 : decode cX9_hoursBefore 40 = .ok (.invokevirtual 127, 3) := by decide +kernel
theorem dX9_hoursBefore_43 : decode cX9_hoursBefore 43 = .ok (.aload_n 0, 1) := by decide +kernel
theorem dX9_hoursBefore_44 : decode cX9_hoursBefore 44 = .ok (.getfield 155, 3) := by decide +kernel
theorem dX9_hoursBefore_47 : decode cX9_hoursBefore 47 = .ok (.if_icmp .ge 11, 3) := by decide +kernel
theorem dX9_hoursBefore_50 : decode cX9_hoursBefore 50 = .ok (.aload_n 0, 1) := by decide +kernel
theorem dX9_hoursBefore_51 : decode cX9_hoursBefore 51 = .ok (.iload_n 3, 1) := by decide +kernel
theorem dX9_hoursBefore_52 : decode cX9_hoursBefore 52 = .ok (.invokevirtual 103, 3) := by decide +kernel
theorem dX9_hoursBefore_55 : decode cX9_hoursBefore 55 = .ok (.goto 14, 3) := by decide +kernel
theorem dX9_hoursBefore_58 : decode cX9_hoursBefore 58 = .ok (.aload_n 0, 1) := by decide +kernel
theorem dX9_hoursBefore_59 : decode cX9_hoursBefore 59 = .ok (.getfield 155, 3) := by decide +kernel
theorem dX9_hoursBefore_62 : decode cX9_hoursBefore 62 = .ok (.aload_n 0, 1) := by decide +kernel
theorem dX9_hoursBefore_63 : decode cX9_hoursBefore 63 = .ok (.getfield 37, 3) := by decide +kernel
theorem dX9_hoursBefore_66 : decode cX9_hoursBefore 66 = .ok (.iload_n 3, 1) := by decide +kernel
theorem dX9_hoursBefore_67 : decode cX9_hoursBefore 67 = .ok (.iaload, 1) := by decide +kernel
theorem dX9_hoursBefore_68 : decode cX9_hoursBefore 68 = .ok (.isub, 1) := by decide +kernel
theorem dX9_hoursBefore_69 : decode cX9_hoursBefore 69 = .ok (.iadd, 1) := by decide +kernel
theorem dX9_hoursBefore_70 : decode cX9_hoursBefore 70 = .ok (.istore_n 2, 1) := by decide +kernel
theorem dX9_hoursBefore_71 : decode cX9_hoursBefore 71 = .ok (.iinc 3 1, 3) := by decide +kernel
theorem dX9_hoursBefore_74 : decode cX9_hoursBefore 74 = .ok (.goto (-70), 3) := by decide +kernel
theorem dX9_hoursBefore_77 : decode cX9_hoursBefore 77 = .ok (.iload_n 2, 1) := by decide +kernel
theorem dX9_hoursBefore_78 : decode cX9_hoursBefore 78 = .ok (.ireturn, 1) := by decide +kernel
theorem dX9_share_0 : decode cX9_share 0 = .ok (.aload_n 0, 1) := by decide +kernel
theorem dX9_share_1 : decode cX9_share 1 = .ok (.aload_n 0, 1) := by decide +kernel
theorem dX9_share_2 : decode cX9_share 2 = .ok (.iload_n 1, 1) := by decide +kernel
theorem dX9_share_3 : decode cX9_share 3 = .ok (.invokevirtual 245, 3) := by decide +kernel
theorem dX9_share_6 : decode cX9_share 6 = .ok (.ifCond .ne 7, 3) := by decide +kernel
theorem dX9_share_9 : decode cX9_share 9 = .ok (.iconst 1, 1) := by decide +kernel
theorem dX9_share_10 : decode cX9_share 10 = .ok (.goto 15, 3) := by decide +kernel
theorem dX9_share_13 : decode cX9_share 13 = .ok (.aload_n 0, 1) := by decide +kernel
theorem dX9_share_14 : decode cX9_share 14 = .ok (.getfield 155, 3) := by decide +kernel
theorem dX9_share_17 : decode cX9_share 17 = .ok (.ifCond .ne 7, 3) := by decide +kernel
theorem dX9_share_20 : decode cX9_share 20 = .ok (.iconst 2, 1) := by decide +kernel
theorem dX9_share_21 : decode cX9_share 21 = .ok (.goto 4, 3) := by decide +kernel
theorem dX9_share_24 : decode cX9_share 24 = .ok (.iconst 0, 1) := by decide +kernel
theorem dX9_share_25 : decode cX9_share 25 = .ok (.putfield 87, 3) := by decide +kernel
theorem dX9_share_28 : decode cX9_share 28 = .ok (.aload_n 0, 1) := by decide +kernel
theorem dX9_share_29 : decode cX9_share 29 = .ok (.getfield 87, 3) := by decide +kernel
theorem dX9_share_32 : decode cX9_share 32 = .ok (.ifCond .le 7, 3) := by decide +kernel
theorem dX9_share_35 : decode cX9_share 35 = .ok (.fconst 0, 1) := by decide +kernel
theorem dX9_share_36 : decode cX9_share 36 = .ok (.goto 15, 3) := by decide +kernel
theorem dX9_share_39 : decode cX9_share 39 = .ok (.aload_n 0, 1) := by decide +kernel
theorem dX9_share_40 : decode cX9_share 40 = .ok (.iload_n 1, 1) := by decide +kernel
theorem dX9_share_41 : decode cX9_share 41 = .ok (.invokevirtual 327, 3) := by decide +kernel
theorem dX9_share_44 : decode cX9_share 44 = .ok (.i2f, 1) := by decide +kernel
theorem dX9_share_45 : decode cX9_share 45 = .ok (.aload_n 0, 1) := by decide +kernel
theorem dX9_share_46 : decode cX9_share 46 = .ok (.getfield 155, 3) := by decide +kernel
theorem dX9_share_49 : decode cX9_share 49 = .ok (.i2f, 1) := by decide +kernel
theorem dX9_share_50 : decode cX9_share 50 = .ok (.fdiv, 1) := by decide +kernel
theorem dX9_share_51 : decode cX9_share 51 = .ok (.freturn, 1) := by decide +kernel
theorem dX9_feed_0 : decode cX9_feed 0 = .ok (.aload_n 0, 1) := by decide +kernel
theorem dX9_feed_1 : decode cX9_feed 1 = .ok (.getfield 325, 3) := by decide +kernel
theorem dX9_feed_4 : decode cX9_feed 4 = .ok (.bipush 60, 2) := by decide +kernel
theorem dX9_feed_6 : decode cX9_feed 6 = .ok (.if_icmp .ne 9, 3) := by decide +kernel
theorem dX9_feed_9 : decode cX9_feed 9 = .ok (.aload_n 0, 1) := by decide +kernel
theorem dX9_feed_10 : decode cX9_feed 10 = .ok (.iconst 1, 1) := by decide +kernel
theorem dX9_feed_11 : decode cX9_feed 11 = .ok (.invokevirtual 220, 3) := by decide +kernel
theorem dX9_feed_14 : decode cX9_feed 14 = .ok (.ireturn, 1) := by decide +kernel
theorem dX9_feed_15 : decode cX9_feed 15 = .ok (.aload_n 0, 1) := by decide +kernel
theorem dX9_feed_16 : decode cX9_feed 16 = .ok (.iconst 0, 1) := by decide +kernel
theorem dX9_feed_17 : decode cX9_feed 17 = .ok (.putfield 87, 3) := by decide +kernel
theorem dX9_feed_20 : decode cX9_feed 20 = .ok (.aload_n 0, 1) := by decide +kernel
theorem dX9_feed_21 : decode cX9_feed 21 = .ok (.getfield 64, 3) := by decide +kernel
theorem dX9_feed_24 : decode cX9_feed 24 = .ok (.aload_n 0, 1) := by decide +kernel
theorem dX9_feed_25 : decode cX9_feed 25 = .ok (.getfield 325, 3) := by decide +kernel
theorem dX9_feed_28 : decode cX9_feed 28 = .ok (.iload_n 1, 1) := by decide +kernel
theorem dX9_feed_29 : decode cX9_feed 29 = .ok (.castore, 1) := by decide +kernel
theorem dX9_feed_30 : decode cX9_feed 30 = .ok (.aload_n 0, 1) := by decide +kernel
theorem dX9_feed_31 : decode cX9_feed 31 = .ok (.dup, 1) := by decide +kernel
theorem dX9_feed_32 : decode cX9_feed 32 = .ok (.getfield 325, 3) := by decide +kernel
theorem dX9_feed_35 : decode cX9_feed 35 = .ok (.iconst 1, 1) := by decide +kernel
theorem dX9_feed_36 : decode cX9_feed 36 = .ok (.iadd, 1) := by decide +kernel
theorem dX9_feed_37 : decode cX9_feed 37 = .ok (.putfield 325, 3) := by decide +kernel
theorem dX9_feed_40 : decode cX9_feed 40 = .ok (.aload_n 0, 1) := by decide +kernel
theorem dX9_feed_41 : decode cX9_feed 41 = .ok (.getfield 325, 3) := by decide +kernel
theorem dX9_feed_44 : decode cX9_feed 44 = .ok (.ireturn, 1) := by decide +kernel
theorem dX9_sign_0 : decode cX9_sign 0 = .ok (.aload_n 0, 1) := by decide +kernel
theorem dX9_sign_1 : decode cX9_sign 1 = .ok (.getfield 330, 3) := by decide +kernel
theorem dX9_sign_4 : decode cX9_sign 4 = .ok (.aload_n 0, 1) := by decide +kernel
theorem dX9_sign_5 : decode cX9_sign 5 = .ok (.getfield 325, 3) := by decide +kernel
theorem dX9_sign_8 : decode cX9_sign 8 = .ok (.if_icmp .ge 15, 3) := by decide +kernel
theorem dX9_sign_11 : decode cX9_sign 11 = .ok (.aload_n 0, 1) := by decide +kernel
theorem dX9_sign_12 : decode cX9_sign 12 = .ok (.getfield 64, 3) := by decide +kernel
theorem dX9_sign_15 : decode cX9_sign 15 = .ok (.aload_n 0, 1) := by decide +kernel
theorem dX9_sign_16 : decode cX9_sign 16 = .ok (.getfield 330, 3) := by decide +kernel
theorem dX9_sign_19 : decode cX9_sign 19 = .ok (.caload, 1) := by decide +kernel
theorem dX9_sign_20 : decode cX9_sign 20 = .ok (.goto 4, 3) := by decide +kernel
theorem dX9_sign_23 : decode cX9_sign 23 = .ok (.iconst (-1), 1) := by decide +kernel
theorem dX9_sign_24 : decode cX9_sign 24 = .ok (.ireturn, 1) := by decide +kernel
theorem dX9_skips_0 : decode cX9_skips 0 = .ok (.aload_n 0, 1) := by decide +kernel
theorem dX9_skips_1 : decode cX9_skips 1 = .ok (.invokevirtual 333, 3) := by decide +kernel
theorem dX9_skips_4 : decode cX9_skips 4 = .ok (.iload_n 1, 1) := by decide +kernel
theorem dX9_skips_5 : decode cX9_skips 5 = .ok (.if_icmp .eq 5, 3) := by decide +kernel
theorem dX9_skips_8 : decode cX9_skips 8 = .ok (.iconst 0, 1) := by decide +kernel
theorem dX9_skips_9 : decode cX9_skips 9 = .ok (.ireturn, 1) := by decide +kernel
theorem dX9_skips_10 : decode cX9_skips 10 = .ok (.aload_n 0, 1) := by decide +kernel
theorem dX9_skips_11 : decode cX9_skips 11 = .ok (.dup, 1) := by decide +kernel
theorem dX9_skips_12 : decode cX9_skips 12 = .ok (.getfield 330, 3) := by decide +kernel
theorem dX9_skips_15 : decode cX9_skips 15 = .ok (.iconst 1, 1) := by decide +kernel
theorem dX9_skips_16 : decode cX9_skips 16 = .ok (.iadd, 1) := by decide +kernel
theorem dX9_skips_17 : decode cX9_skips 17 = .ok (.putfield 330, 3) := by decide +kernel
theorem dX9_skips_20 : decode cX9_skips 20 = .ok (.iconst 1, 1) := by decide +kernel
theorem dX9_skips_21 : decode cX9_skips 21 = .ok (.ireturn, 1) := by decide +kernel
theorem dX9_takesNumber_0 : decode cX9_takesNumber 0 = .ok (.aload_n 0, 1) := by decide +kernel
theorem dX9_takesNumber_1 : decode cX9_takesNumber 1 = .ok (.invokevirtual 333, 3) := by decide +kernel
theorem dX9_takesNumber_4 : decode cX9_takesNumber 4 = .ok (.bipush 48, 2) := by decide +kernel
theorem dX9_takesNumber_6 : decode cX9_takesNumber 6 = .ok (.bipush 57, 2) := by decide +kernel
theorem dX9_takesNumber_8 : decode cX9_takesNumber 8 = .ok (.invokestatic 90, 3) := by decide +kernel
theorem dX9_takesNumber_11 : decode cX9_takesNumber 11 = .ok (.ifCond .ne 5, 3) := by decide +kernel
theorem dX9_takesNumber_14 : decode cX9_takesNumber 14 = .ok (.iconst 0, 1) := by decide +kernel
theorem dX9_takesNumber_15 : decode cX9_takesNumber 15 = .ok (.ireturn, 1) := by decide +kernel
theorem dX9_takesNumber_16 : decode cX9_takesNumber 16 = .ok (.iconst 0, 1) := by decide +kernel
theorem dX9_takesNumber_17 : decode cX9_takesNumber 17 = .ok (.istore_n 2, 1) := by decide +kernel
theorem dX9_takesNumber_18 : decode cX9_takesNumber 18 = .ok (.iconst 0, 1) := by decide +kernel
theorem dX9_takesNumber_19 : decode cX9_takesNumber 19 = .ok (.istore_n 3, 1) := by decide +kernel
theorem dX9_takesNumber_20 : decode cX9_takesNumber 20 = .ok (.iload_n 3, 1) := by decide +kernel
theorem dX9_takesNumber_21 : decode cX9_takesNumber 21 = .ok (.iconst 3, 1) := by decide +kernel
theorem dX9_takesNumber_22 : decode cX9_takesNumber 22 = .ok (.if_icmp .ge 46, 3) := by decide +kernel
theorem dX9_takesNumber_25 : decode cX9_takesNumber 25 = .ok (.aload_n 0, 1) := by decide +kernel
theorem dX9_takesNumber_26 : decode cX9_takesNumber 26 = .ok (.invokevirtual 333, 3) := by decide +kernel
theorem dX9_takesNumber_29 : decode cX9_takesNumber 29 = .ok (.bipush 48, 2) := by decide +kernel
theorem dX9_takesNumber_31 : decode cX9_takesNumber 31 = .ok (.bipush 57, 2) := by decide +kernel
theorem dX9_takesNumber_33 : decode cX9_takesNumber 33 = .ok (.invokestatic 90, 3) := by decide +kernel
theorem dX9_takesNumber_36 : decode cX9_takesNumber 36 = .ok (.ifCond .eq 32, 3) := by decide +kernel
theorem dX9_takesNumber_39 : decode cX9_takesNumber 39 = .ok (.bipush 10, 2) := by decide +kernel
theorem dX9_takesNumber_41 : decode cX9_takesNumber 41 = .ok (.iload_n 2, 1) := by decide +kernel
theorem dX9_takesNumber_42 : decode cX9_takesNumber 42 = .ok (.imul, 1) := by decide +kernel
theorem dX9_takesNumber_43 : decode cX9_takesNumber 43 = .ok (.aload_n 0, 1) := by decide +kernel
theorem dX9_takesNumber_44 : decode cX9_takesNumber 44 = .ok (.invokevirtual 333, 3) := by decide +kernel
theorem dX9_takesNumber_47 : decode cX9_takesNumber 47 = .ok (.iadd, 1) := by decide +kernel
theorem dX9_takesNumber_48 : decode cX9_takesNumber 48 = .ok (.bipush 48, 2) := by decide +kernel
theorem dX9_takesNumber_50 : decode cX9_takesNumber 50 = .ok (.isub, 1) := by decide +kernel
theorem dX9_takesNumber_51 : decode cX9_takesNumber 51 = .ok (.istore_n 2, 1) := by decide +kernel
theorem dX9_takesNumber_52 : decode cX9_takesNumber 52 = .ok (.aload_n 0, 1) := by decide +kernel
theorem dX9_takesNumber_53 : decode cX9_takesNumber 53 = .ok (.dup, 1) := by decide +kernel
theorem dX9_takesNumber_54 : decode cX9_takesNumber 54 = .ok (.getfield 330, 3) := by decide +kernel
theorem dX9_takesNumber_57 : decode cX9_takesNumber 57 = .ok (.iconst 1, 1) := by decide +kernel
theorem dX9_takesNumber_58 : decode cX9_takesNumber 58 = .ok (.iadd, 1) := by decide +kernel
theorem dX9_takesNumber_59 : decode cX9_takesNumber 59 = .ok (.putfield 330, 3) := by decide +kernel
theorem dX9_takesNumber_62 : decode cX9_takesNumber 62 = .ok (.iinc 3 1, 3) := by decide +kernel
theorem dX9_takesNumber_65 : decode cX9_takesNumber 65 = .ok (.goto (-45), 3) := by decide +kernel
theorem dX9_takesNumber_68 : decode cX9_takesNumber 68 = .ok (.aload_n 0, 1) := by decide +kernel
theorem dX9_takesNumber_69 : decode cX9_takesNumber 69 = .ok (.getfield 71, 3) := by decide +kernel
theorem dX9_takesNumber_72 : decode cX9_takesNumber 72 = .ok (.iconst 4, 1) := by decide +kernel
theorem dX9_takesNumber_73 : decode cX9_takesNumber 73 = .ok (.aload_n 0, 1) := by decide +kernel
theorem dX9_takesNumber_74 : decode cX9_takesNumber 74 = .ok (.getfield 336, 3) := by decide +kernel
theorem dX9_takesNumber_77 : decode cX9_takesNumber 77 = .ok (.imul, 1) := by decide +kernel
theorem dX9_takesNumber_78 : decode cX9_takesNumber 78 = .ok (.iload_n 1, 1) := by decide +kernel
theorem dX9_takesNumber_79 : decode cX9_takesNumber 79 = .ok (.iadd, 1) := by decide +kernel
theorem dX9_takesNumber_80 : decode cX9_takesNumber 80 = .ok (.iload_n 2, 1) := by decide +kernel
theorem dX9_takesNumber_81 : decode cX9_takesNumber 81 = .ok (.iastore, 1) := by decide +kernel
theorem dX9_takesNumber_82 : decode cX9_takesNumber 82 = .ok (.iconst 1, 1) := by decide +kernel
theorem dX9_takesNumber_83 : decode cX9_takesNumber 83 = .ok (.ireturn, 1) := by decide +kernel
theorem dX9_takesShip_0 : decode cX9_takesShip 0 = .ok (.aload_n 0, 1) := by decide +kernel
theorem dX9_takesShip_1 : decode cX9_takesShip 1 = .ok (.getfield 71, 3) := by decide +kernel
theorem dX9_takesShip_4 : decode cX9_takesShip 4 = .ok (.iconst 4, 1) := by decide +kernel
theorem dX9_takesShip_5 : decode cX9_takesShip 5 = .ok (.aload_n 0, 1) := by decide +kernel
theorem dX9_takesShip_6 : decode cX9_takesShip 6 = .ok (.getfield 336, 3) := by decide +kernel
theorem dX9_takesShip_9 : decode cX9_takesShip 9 = .ok (.imul, 1) := by decide +kernel
theorem dX9_takesShip_10 : decode cX9_takesShip 10 = .ok (.aload_n 0, 1) := by decide +kernel
theorem dX9_takesShip_11 : decode cX9_takesShip 11 = .ok (.invokevirtual 333, 3) := by decide +kernel
theorem dX9_takesShip_14 : decode cX9_takesShip 14 = .ok (.bipush 48, 2) := by decide +kernel
theorem dX9_takesShip_16 : decode cX9_takesShip 16 = .ok (.isub, 1) := by decide +kernel
theorem dX9_takesShip_17 : decode cX9_takesShip 17 = .ok (.iastore, 1) := by decide +kernel
theorem dX9_takesShip_18 : decode cX9_takesShip 18 = .ok (.aload_n 0, 1) := by decide +kernel
theorem dX9_takesShip_19 : decode cX9_takesShip 19 = .ok (.dup, 1) := by decide +kernel
theorem dX9_takesShip_20 : decode cX9_takesShip 20 = .ok (.getfield 330, 3) := by decide +kernel
theorem dX9_takesShip_23 : decode cX9_takesShip 23 = .ok (.iconst 1, 1) := by decide +kernel
theorem dX9_takesShip_24 : decode cX9_takesShip 24 = .ok (.iadd, 1) := by decide +kernel
theorem dX9_takesShip_25 : decode cX9_takesShip 25 = .ok (.putfield 330, 3) := by decide +kernel
theorem dX9_takesShip_28 : decode cX9_takesShip 28 = .ok (.aload_n 0, 1) := by decide +kernel
theorem dX9_takesShip_29 : decode cX9_takesShip 29 = .ok (.invokevirtual 333, 3) := by decide +kernel
theorem dX9_takesShip_32 : decode cX9_takesShip 32 = .ok (.bipush 105, 2) := by decide +kernel
theorem dX9_takesShip_34 : decode cX9_takesShip 34 = .ok (.if_icmp .eq 14, 3) := by decide +kernel
theorem dX9_takesShip_37 : decode cX9_takesShip 37 = .ok (.aload_n 0, 1) := by decide +kernel
theorem dX9_takesShip_38 : decode cX9_takesShip 38 = .ok (.invokevirtual 333, 3) := by decide +kernel
theorem dX9_takesShip_41 : decode cX9_takesShip 41 = .ok (.bipush 111, 2) := by decide +kernel
theorem dX9_takesShip_43 : decode cX9_takesShip 43 = .ok (.if_icmp .eq 5, 3) := by decide +kernel
theorem dX9_takesShip_46 : decode cX9_takesShip 46 = .ok (.iconst 0, 1) := by decide +kernel
theorem dX9_takesShip_47 : decode cX9_takesShip 47 = .ok (.ireturn, 1) := by decide +kernel
theorem dX9_takesShip_48 : decode cX9_takesShip 48 = .ok (.aload_n 0, 1) := by decide +kernel
theorem dX9_takesShip_49 : decode cX9_takesShip 49 = .ok (.getfield 68, 3) := by decide +kernel
theorem dX9_takesShip_52 : decode cX9_takesShip 52 = .ok (.aload_n 0, 1) := by decide +kernel
theorem dX9_takesShip_53 : decode cX9_takesShip 53 = .ok (.getfield 336, 3) := by decide +kernel
theorem dX9_takesShip_56 : decode cX9_takesShip 56 = .ok (.aload_n 0, 1) := by decide +kernel
theorem dX9_takesShip_57 : decode cX9_takesShip 57 = .ok (.getfield 64, 3) := by decide +kernel
theorem dX9_takesShip_60 : decode cX9_takesShip 60 = .ok (.aload_n 0, 1) := by decide +kernel
theorem dX9_takesShip_61 : decode cX9_takesShip 61 = .ok (.getfield 330, 3) := by decide +kernel
theorem dX9_takesShip_64 : decode cX9_takesShip 64 = .ok (.caload, 1) := by decide +kernel
theorem dX9_takesShip_65 : decode cX9_takesShip 65 = .ok (.castore, 1) := by decide +kernel
theorem dX9_takesShip_66 : decode cX9_takesShip 66 = .ok (.aload_n 0, 1) := by decide +kernel
theorem dX9_takesShip_67 : decode cX9_takesShip 67 = .ok (.dup, 1) := by decide +kernel
theorem dX9_takesShip_68 : decode cX9_takesShip 68 = .ok (.getfield 330, 3) := by decide +kernel
theorem dX9_takesShip_71 : decode cX9_takesShip 71 = .ok (.iconst 1, 1) := by decide +kernel
theorem dX9_takesShip_72 : decode cX9_takesShip 72 = .ok (.iadd, 1) := by decide +kernel
theorem dX9_takesShip_73 : decode cX9_takesShip 73 = .ok (.putfield 330, 3) := by decide +kernel
theorem dX9_takesShip_76 : decode cX9_takesShip 76 = .ok (.aload_n 0, 1) := by decide +kernel
theorem dX9_takesShip_77 : decode cX9_takesShip 77 = .ok (.iconst 1, 1) := by decide +kernel
theorem dX9_takesShip_78 : decode cX9_takesShip 78 = .ok (.invokevirtual 339, 3) := by decide +kernel
theorem dX9_takesShip_81 : decode cX9_takesShip 81 = .ok (.ifCond .eq 41, 3) := by decide +kernel
theorem dX9_takesShip_84 : decode cX9_takesShip 84 = .ok (.aload_n 0, 1) := by decide +kernel
theorem dX9_takesShip_85 : decode cX9_takesShip 85 = .ok (.bipush 64, 2) := by decide +kernel
theorem dX9_takesShip_87 : decode cX9_takesShip 87 = .ok (.invokevirtual 342, 3) := by decide +kernel
theorem dX9_takesShip_90 : decode cX9_takesShip 90 = .ok (.ifCond .eq 32, 3) := by decide +kernel
theorem dX9_takesShip_93 : decode cX9_takesShip 93 = .ok (.aload_n 0, 1) := by decide +kernel
theorem dX9_takesShip_94 : decode cX9_takesShip 94 = .ok (.iconst 2, 1) := by decide +kernel
theorem dX9_takesShip_95 : decode cX9_takesShip 95 = .ok (.invokevirtual 339, 3) := by decide +kernel
theorem dX9_takesShip_98 : decode cX9_takesShip 98 = .ok (.ifCond .eq 24, 3) := by decide +kernel
theorem dX9_takesShip_101 : decode cX9_takesShip 101 = .ok (.aload_n 0, 1) := by decide +kernel
theorem dX9_takesShip_102 : decode cX9_takesShip 102 = .ok (.bipush 45, 2) := by decide +kernel
theorem dX9_takesShip_104 : decode cX9_takesShip 104 = .ok (.invokevirtual 342, 3) := by decide +kernel
theorem dX9_takesShip_107 : decode cX9_takesShip 107 = .ok (.ifCond .eq 15, 3) := by decide +kernel
theorem dX9_takesShip_110 : decode cX9_takesShip 110 = .ok (.aload_n 0, 1) := by decide +kernel
theorem dX9_takesShip_111 : decode cX9_takesShip 111 = .ok (.iconst 3, 1) := by decide +kernel
theorem dX9_takesShip_112 : decode cX9_takesShip 112 = .ok (.invokevirtual 339, 3) := by decide +kernel
theorem dX9_takesShip_115 : decode cX9_takesShip 115 = .ok (.ifCond .eq 7, 3) := by decide +kernel
theorem dX9_takesShip_118 : decode cX9_takesShip 118 = .ok (.iconst 1, 1) := by decide +kernel
theorem dX9_takesShip_119 : decode cX9_takesShip 119 = .ok (.goto 4, 3) := by decide +kernel
theorem dX9_takesShip_122 : decode cX9_takesShip 122 = .ok (.iconst 0, 1) := by decide +kernel
theorem dX9_takesShip_123 : decode cX9_takesShip 123 = .ok (.ireturn, 1) := by decide +kernel
theorem dX9_takesItem_0 : decode cX9_takesItem 0 = .ok (.aload_n 0, 1) := by decide +kernel
theorem dX9_takesItem_1 : decode cX9_takesItem 1 = .ok (.invokevirtual 333, 3) := by decide +kernel
theorem dX9_takesItem_4 : decode cX9_takesItem 4 = .ok (.istore_n 1, 1) := by decide +kernel
theorem dX9_takesItem_5 : decode cX9_takesItem 5 = .ok (.iload_n 1, 1) := by decide +kernel
theorem dX9_takesItem_6 : decode cX9_takesItem 6 = .ok (.bipush 49, 2) := by decide +kernel
theorem dX9_takesItem_8 : decode cX9_takesItem 8 = .ok (.bipush 52, 2) := by decide +kernel
theorem dX9_takesItem_10 : decode cX9_takesItem 10 = .ok (.invokestatic 90, 3) := by decide +kernel
theorem dX9_takesItem_13 : decode cX9_takesItem 13 = .ok (.ifCond .eq 12, 3) := by decide +kernel
theorem dX9_takesItem_16 : decode cX9_takesItem 16 = .ok (.aload_n 0, 1) := by decide +kernel
theorem dX9_takesItem_17 : decode cX9_takesItem 17 = .ok (.invokevirtual 345, 3) := by decide +kernel
theorem dX9_takesItem_20 : decode cX9_takesItem 20 = .ok (.ifCond .ne 86, 3) := by decide +kernel
theorem dX9_takesItem_23 : decode cX9_takesItem 23 = .ok (.iconst 0, 1) := by decide +kernel
theorem dX9_takesItem_24 : decode cX9_takesItem 24 = .ok (.ireturn, 1) := by decide +kernel
theorem dX9_takesItem_25 : decode cX9_takesItem 25 = .ok (.iload_n 1, 1) := by decide +kernel
theorem dX9_takesItem_26 : decode cX9_takesItem 26 = .ok (.bipush 115, 2) := by decide +kernel
theorem dX9_takesItem_28 : decode cX9_takesItem 28 = .ok (.if_icmp .eq 17, 3) := by decide +kernel
theorem dX9_takesItem_31 : decode cX9_takesItem 31 = .ok (.iload_n 1, 1) := by decide +kernel
theorem dX9_takesItem_32 : decode cX9_takesItem 32 = .ok (.bipush 100, 2) := by decide +kernel
theorem dX9_takesItem_34 : decode cX9_takesItem 34 = .ok (.if_icmp .eq 11, 3) := by decide +kernel
theorem dX9_takesItem_37 : decode cX9_takesItem 37 = .ok (.iload_n 1, 1) := by decide +kernel
theorem dX9_takesItem_38 : decode cX9_takesItem 38 = .ok (.bipush 119, 2) := by decide +kernel
theorem dX9_takesItem_40 : decode cX9_takesItem 40 = .ok (.if_icmp .eq 5, 3) := by decide +kernel
theorem dX9_takesItem_43 : decode cX9_takesItem 43 = .ok (.iconst 0, 1) := by decide +kernel
theorem dX9_takesItem_44 : decode cX9_takesItem 44 = .ok (.ireturn, 1) := by decide +kernel
theorem dX9_takesItem_45 : decode cX9_takesItem 45 = .ok (.aload_n 0, 1) := by decide +kernel
theorem dX9_takesItem_46 : decode cX9_takesItem 46 = .ok (.getfield 68, 3) := by decide +kernel
theorem dX9_takesItem_49 : decode cX9_takesItem 49 = .ok (.aload_n 0, 1) := by decide +kernel
theorem dX9_takesItem_50 : decode cX9_takesItem 50 = .ok (.getfield 336, 3) := by decide +kernel
theorem dX9_takesItem_53 : decode cX9_takesItem 53 = .ok (.aload_n 0, 1) := by decide +kernel
theorem dX9_takesItem_54 : decode cX9_takesItem 54 = .ok (.getfield 64, 3) := by decide +kernel
theorem dX9_takesItem_57 : decode cX9_takesItem 57 = .ok (.aload_n 0, 1) := by decide +kernel
theorem dX9_takesItem_58 : decode cX9_takesItem 58 = .ok (.getfield 330, 3) := by decide +kernel
theorem dX9_takesItem_61 : decode cX9_takesItem 61 = .ok (.caload, 1) := by decide +kernel
theorem dX9_takesItem_62 : decode cX9_takesItem 62 = .ok (.castore, 1) := by decide +kernel
theorem dX9_takesItem_63 : decode cX9_takesItem 63 = .ok (.aload_n 0, 1) := by decide +kernel
theorem dX9_takesItem_64 : decode cX9_takesItem 64 = .ok (.dup, 1) := by decide +kernel
theorem dX9_takesItem_65 : decode cX9_takesItem 65 = .ok (.getfield 330, 3) := by decide +kernel
theorem dX9_takesItem_68 : decode cX9_takesItem 68 = .ok (.iconst 1, 1) := by decide +kernel
theorem dX9_takesItem_69 : decode cX9_takesItem 69 = .ok (.iadd, 1) := by decide +kernel
theorem dX9_takesItem_70 : decode cX9_takesItem 70 = .ok (.putfield 330, 3) := by decide +kernel
theorem dX9_takesItem_73 : decode cX9_takesItem 73 = .ok (.aload_n 0, 1) := by decide +kernel
theorem dX9_takesItem_74 : decode cX9_takesItem 74 = .ok (.iconst 0, 1) := by decide +kernel
theorem dX9_takesItem_75 : decode cX9_takesItem 75 = .ok (.invokevirtual 339, 3) := by decide +kernel
theorem dX9_takesItem_78 : decode cX9_takesItem 78 = .ok (.ifCond .eq 26, 3) := by decide +kernel
theorem dX9_takesItem_81 : decode cX9_takesItem 81 = .ok (.iload_n 1, 1) := by decide +kernel
theorem dX9_takesItem_82 : decode cX9_takesItem 82 = .ok (.bipush 100, 2) := by decide +kernel
theorem dX9_takesItem_84 : decode cX9_takesItem 84 = .ok (.if_icmp .ne 22, 3) := by decide +kernel
theorem dX9_takesItem_87 : decode cX9_takesItem 87 = .ok (.aload_n 0, 1) := by decide +kernel
theorem dX9_takesItem_88 : decode cX9_takesItem 88 = .ok (.bipush 43, 2) := by decide +kernel
theorem dX9_takesItem_90 : decode cX9_takesItem 90 = .ok (.invokevirtual 342, 3) := by decide +kernel
theorem dX9_takesItem_93 : decode cX9_takesItem 93 = .ok (.ifCond .eq 11, 3) := by decide +kernel
theorem dX9_takesItem_96 : decode cX9_takesItem 96 = .ok (.aload_n 0, 1) := by decide +kernel
theorem dX9_takesItem_97 : decode cX9_takesItem 97 = .ok (.iconst 1, 1) := by decide +kernel
theorem dX9_takesItem_98 : decode cX9_takesItem 98 = .ok (.invokevirtual 339, 3) := by decide +kernel
theorem dX9_takesItem_101 : decode cX9_takesItem 101 = .ok (.ifCond .ne 5, 3) := by decide +kernel
theorem dX9_takesItem_104 : decode cX9_takesItem 104 = .ok (.iconst 0, 1) := by decide +kernel
theorem dX9_takesItem_105 : decode cX9_takesItem 105 = .ok (.ireturn, 1) := by decide +kernel
theorem dX9_takesItem_106 : decode cX9_takesItem 106 = .ok (.aload_n 0, 1) := by decide +kernel
theorem dX9_takesItem_107 : decode cX9_takesItem 107 = .ok (.dup, 1) := by decide +kernel
theorem dX9_takesItem_108 : decode cX9_takesItem 108 = .ok (.getfield 336, 3) := by decide +kernel
theorem dX9_takesItem_111 : decode cX9_takesItem 111 = .ok (.iconst 1, 1) := by decide +kernel
theorem dX9_takesItem_112 : decode cX9_takesItem 112 = .ok (.iadd, 1) := by decide +kernel
theorem dX9_takesItem_113 : decode cX9_takesItem 113 = .ok (.putfield 336, 3) := by decide +kernel
theorem dX9_takesItem_116 : decode cX9_takesItem 116 = .ok (.iconst 1, 1) := by decide +kernel
theorem dX9_takesItem_117 : decode cX9_takesItem 117 = .ok (.ireturn, 1) := by decide +kernel
theorem dX9_takesText_0 : decode cX9_takesText 0 = .ok (.aload_n 0, 1) := by decide +kernel
theorem dX9_takesText_1 : decode cX9_takesText 1 = .ok (.iconst 0, 1) := by decide +kernel
theorem dX9_takesText_2 : decode cX9_takesText 2 = .ok (.putfield 330, 3) := by decide +kernel
theorem dX9_takesText_5 : decode cX9_takesText 5 = .ok (.aload_n 0, 1) := by decide +kernel
theorem dX9_takesText_6 : decode cX9_takesText 6 = .ok (.iconst 0, 1) := by decide +kernel
theorem dX9_takesText_7 : decode cX9_takesText 7 = .ok (.putfield 336, 3) := by decide +kernel
theorem dX9_takesText_10 : decode cX9_takesText 10 = .ok (.aload_n 0, 1) := by decide +kernel
theorem dX9_takesText_11 : decode cX9_takesText 11 = .ok (.invokevirtual 349, 3) := by decide +kernel
theorem dX9_takesText_14 : decode cX9_takesText 14 = .ok (.ifCond .ne 5, 3) := by decide +kernel
theorem dX9_takesText_17 : decode cX9_takesText 17 = .ok (.iconst 0, 1) := by decide +kernel
theorem dX9_takesText_18 : decode cX9_takesText 18 = .ok (.ireturn, 1) := by decide +kernel
theorem dX9_takesText_19 : decode cX9_takesText 19 = .ok (.aload_n 0, 1) := by decide +kernel
theorem dX9_takesText_20 : decode cX9_takesText 20 = .ok (.bipush 59, 2) := by decide +kernel
theorem dX9_takesText_22 : decode cX9_takesText 22 = .ok (.invokevirtual 342, 3) := by decide +kernel
theorem dX9_takesText_25 : decode cX9_takesText 25 = .ok (.ifCond .ne (-15), 3) := by decide +kernel
theorem dX9_takesText_28 : decode cX9_takesText 28 = .ok (.aload_n 0, 1) := by decide +kernel
theorem dX9_takesText_29 : decode cX9_takesText 29 = .ok (.getfield 330, 3) := by decide +kernel
theorem dX9_takesText_32 : decode cX9_takesText 32 = .ok (.aload_n 0, 1) := by decide +kernel
theorem dX9_takesText_33 : decode cX9_takesText 33 = .ok (.getfield 325, 3) := by decide +kernel
theorem dX9_takesText_36 : decode cX9_takesText 36 = .ok (.if_icmp .ne 7, 3) := by decide +kernel
theorem dX9_takesText_39 : decode cX9_takesText 39 = .ok (.iconst 1, 1) := by decide +kernel
theorem dX9_takesText_40 : decode cX9_takesText 40 = .ok (.goto 4, 3) := by decide +kernel
theorem dX9_takesText_43 : decode cX9_takesText 43 = .ok (.iconst 0, 1) := by decide +kernel
theorem dX9_takesText_44 : decode cX9_takesText 44 = .ok (.ireturn, 1) := by decide +kernel
theorem dX9_does_0 : decode cX9_does 0 = .ok (.aload_n 0, 1) := by decide +kernel
theorem dX9_does_1 : decode cX9_does 1 = .ok (.getfield 71, 3) := by decide +kernel
theorem dX9_does_4 : decode cX9_does 4 = .ok (.iconst 4, 1) := by decide +kernel
theorem dX9_does_5 : decode cX9_does 5 = .ok (.iload_n 1, 1) := by decide +kernel
theorem dX9_does_6 : decode cX9_does 6 = .ok (.imul, 1) := by decide +kernel
theorem dX9_does_7 : decode cX9_does 7 = .ok (.iaload, 1) := by decide +kernel
theorem dX9_does_8 : decode cX9_does 8 = .ok (.istore_n 2, 1) := by decide +kernel
theorem dX9_does_9 : decode cX9_does 9 = .ok (.aload_n 0, 1) := by decide +kernel
theorem dX9_does_10 : decode cX9_does 10 = .ok (.getfield 71, 3) := by decide +kernel
theorem dX9_does_13 : decode cX9_does 13 = .ok (.iconst 4, 1) := by decide +kernel
theorem dX9_does_14 : decode cX9_does 14 = .ok (.iload_n 1, 1) := by decide +kernel
theorem dX9_does_15 : decode cX9_does 15 = .ok (.imul, 1) := by decide +kernel
theorem dX9_does_16 : decode cX9_does 16 = .ok (.iconst 1, 1) := by decide +kernel
theorem dX9_does_17 : decode cX9_does 17 = .ok (.iadd, 1) := by decide +kernel
theorem dX9_does_18 : decode cX9_does 18 = .ok (.iaload, 1) := by decide +kernel
theorem dX9_does_19 : decode cX9_does 19 = .ok (.istore_n 3, 1) := by decide +kernel
theorem dX9_does_20 : decode cX9_does 20 = .ok (.aload_n 0, 1) := by decide +kernel
theorem dX9_does_21 : decode cX9_does 21 = .ok (.getfield 68, 3) := by decide +kernel
theorem dX9_does_24 : decode cX9_does 24 = .ok (.iload_n 1, 1) := by decide +kernel
theorem dX9_does_25 : decode cX9_does 25 = .ok (.caload, 1) := by decide +kernel
theorem dX9_does_26 : decode cX9_does 26 = .ok (.istore 4, 2) := by decide +kernel
theorem dX9_does_28 : decode cX9_does 28 = .ok (.iload 4, 2) := by decide +kernel
theorem dX9_does_30 : decode cX9_does 30 = .ok (.bipush 115, 2) := by decide +kernel
theorem dX9_does_32 : decode cX9_does 32 = .ok (.if_icmp .ne 11, 3) := by decide +kernel
theorem dX9_does_35 : decode cX9_does 35 = .ok (.aload_n 0, 1) := by decide +kernel
theorem dX9_does_36 : decode cX9_does 36 = .ok (.iload_n 2, 1) := by decide +kernel
theorem dX9_does_37 : decode cX9_does 37 = .ok (.invokevirtual 352, 3) := by decide +kernel
theorem dX9_does_40 : decode cX9_does 40 = .ok (.goto 72, 3) := by decide +kernel
theorem dX9_does_43 : decode cX9_does 43 = .ok (.iload 4, 2) := by decide +kernel
theorem dX9_does_45 : decode cX9_does 45 = .ok (.bipush 100, 2) := by decide +kernel
theorem dX9_does_47 : decode cX9_does 47 = .ok (.if_icmp .ne 12, 3) := by decide +kernel
theorem dX9_does_50 : decode cX9_does 50 = .ok (.aload_n 0, 1) := by decide +kernel
theorem dX9_does_51 : decode cX9_does 51 = .ok (.iload_n 2, 1) := by decide +kernel
theorem dX9_does_52 : decode cX9_does 52 = .ok (.iload_n 3, 1) := by decide +kernel
theorem dX9_does_53 : decode cX9_does 53 = .ok (.invokevirtual 355, 3) := by decide +kernel
theorem dX9_does_56 : decode cX9_does 56 = .ok (.goto 56, 3) := by decide +kernel
theorem dX9_does_59 : decode cX9_does 59 = .ok (.iload 4, 2) := by decide +kernel
theorem dX9_does_61 : decode cX9_does 61 = .ok (.bipush 119, 2) := by decide +kernel
theorem dX9_does_63 : decode cX9_does 63 = .ok (.if_icmp .ne 11, 3) := by decide +kernel
theorem dX9_does_66 : decode cX9_does 66 = .ok (.aload_n 0, 1) := by decide +kernel
theorem dX9_does_67 : decode cX9_does 67 = .ok (.iload_n 2, 1) := by decide +kernel
theorem dX9_does_68 : decode cX9_does 68 = .ok (.invokevirtual 358, 3) := by decide +kernel
theorem dX9_does_71 : decode cX9_does 71 = .ok (.goto 41, 3) := by decide +kernel
theorem dX9_does_74 : decode cX9_does 74 = .ok (.aload_n 0, 1) := by decide +kernel
theorem dX9_does_75 : decode cX9_does 75 = .ok (.iload_n 2, 1) := by decide +kernel
theorem dX9_does_76 : decode cX9_does 76 = .ok (.iload 4, 2) := by decide +kernel
theorem dX9_does_78 : decode cX9_does 78 = .ok (.bipush 111, 2) := by decide +kernel
theorem dX9_does_80 : decode cX9_does 80 = .ok (.if_icmp .ne 7, 3) := by decide +kernel
theorem dX9_does_83 : decode cX9_does 83 = .ok (.iconst 1, 1) := by decide +kernel
theorem dX9_does_84 : decode cX9_does 84 = .ok (.goto 4, 3) := by decide +kernel
theorem dX9_does_87 : decode cX9_does 87 = .ok (.iconst 0, 1) := by decide +kernel
theorem dX9_does_88 : decode cX9_does 88 = .ok (.iload_n 3, 1) := by decide +kernel
theorem dX9_does_89 : decode cX9_does 89 = .ok (.aload_n 0, 1) := by decide +kernel
theorem dX9_does_90 : decode cX9_does 90 = .ok (.getfield 71, 3) := by decide +kernel
theorem dX9_does_93 : decode cX9_does 93 = .ok (.iconst 4, 1) := by decide +kernel
theorem dX9_does_94 : decode cX9_does 94 = .ok (.iload_n 1, 1) := by decide +kernel
theorem dX9_does_95 : decode cX9_does 95 = .ok (.imul, 1) := by decide +kernel
theorem dX9_does_96 : decode cX9_does 96 = .ok (.iconst 2, 1) := by decide +kernel
theorem dX9_does_97 : decode cX9_does 97 = .ok (.iadd, 1) := by decide +kernel
theorem dX9_does_98 : decode cX9_does 98 = .ok (.iaload, 1) := by decide +kernel
theorem dX9_does_99 : decode cX9_does 99 = .ok (.aload_n 0, 1) := by decide +kernel
theorem dX9_does_100 : decode cX9_does 100 = .ok (.getfield 71, 3) := by decide +kernel
theorem dX9_does_103 : decode cX9_does 103 = .ok (.iconst 4, 1) := by decide +kernel
theorem dX9_does_104 : decode cX9_does 104 = .ok (.iload_n 1, 1) := by decide +kernel
theorem dX9_does_105 : decode cX9_does 105 = .ok (.imul, 1) := by decide +kernel
theorem dX9_does_106 : decode cX9_does 106 = .ok (.iconst 3, 1) := by decide +kernel
theorem dX9_does_107 : decode cX9_does 107 = .ok (.iadd, 1) := by decide +kernel
theorem dX9_does_108 : decode cX9_does 108 = .ok (.iaload, 1) := by decide +kernel
theorem dX9_does_109 : decode cX9_does 109 = .ok (.invokevirtual 361, 3) := by decide +kernel
theorem dX9_does_112 : decode cX9_does 112 = .ok (.istore 5, 2) := by decide +kernel
theorem dX9_does_114 : decode cX9_does 114 = .ok (.aload_n 0, 1) := by decide +kernel
theorem dX9_does_115 : decode cX9_does 115 = .ok (.getfield 87, 3) := by decide +kernel
theorem dX9_does_118 : decode cX9_does 118 = .ok (.ifCond .ne 15, 3) := by decide +kernel
theorem dX9_does_121 : decode cX9_does 121 = .ok (.iload 5, 2) := by decide +kernel
theorem dX9_does_123 : decode cX9_does 123 = .ok (.ifCond .ge 8, 3) := by decide +kernel
theorem dX9_does_126 : decode cX9_does 126 = .ok (.bipush 20, 2) := by decide +kernel
theorem dX9_does_128 : decode cX9_does 128 = .ok (.goto 4, 3) := by decide +kernel
theorem dX9_does_131 : decode cX9_does 131 = .ok (.iconst 0, 1) := by decide +kernel
theorem dX9_does_132 : decode cX9_does 132 = .ok (.ireturn, 1) := by decide +kernel
theorem dX9_does_133 : decode cX9_does 133 = .ok (.iload 4, 2) := by decide +kernel
theorem dX9_does_135 : decode cX9_does 135 = .ok (.bipush 115, 2) := by decide +kernel
theorem dX9_does_137 : decode cX9_does 137 = .ok (.if_icmp .ne 11, 3) := by decide +kernel
theorem dX9_does_140 : decode cX9_does 140 = .ok (.aload_n 0, 1) := by decide +kernel
theorem dX9_does_141 : decode cX9_does 141 = .ok (.getfield 87, 3) := by decide +kernel
theorem dX9_does_144 : decode cX9_does 144 = .ok (.iconst 2, 1) := by decide +kernel
theorem dX9_does_145 : decode cX9_does 145 = .ok (.if_icmp .eq 18, 3) := by decide +kernel
theorem dX9_does_148 : decode cX9_does 148 = .ok (.iload 4, 2) := by decide +kernel
theorem dX9_does_150 : decode cX9_does 150 = .ok (.bipush 100, 2) := by decide +kernel
theorem dX9_does_152 : decode cX9_does 152 = .ok (.if_icmp .ne 15, 3) := by decide +kernel
theorem dX9_does_155 : decode cX9_does 155 = .ok (.aload_n 0, 1) := by decide +kernel
theorem dX9_does_156 : decode cX9_does 156 = .ok (.getfield 87, 3) := by decide +kernel
theorem dX9_does_159 : decode cX9_does 159 = .ok (.iconst 3, 1) := by decide +kernel
theorem dX9_does_160 : decode cX9_does 160 = .ok (.if_icmp .ne 7, 3) := by decide +kernel
theorem dX9_does_163 : decode cX9_does 163 = .ok (.iconst 1, 1) := by decide +kernel
theorem dX9_does_164 : decode cX9_does 164 = .ok (.goto 4, 3) := by decide +kernel
theorem dX9_does_167 : decode cX9_does 167 = .ok (.iconst 0, 1) := by decide +kernel
theorem dX9_does_168 : decode cX9_does 168 = .ok (.istore 6, 2) := by decide +kernel
theorem dX9_does_170 : decode cX9_does 170 = .ok (.iload 6, 2) := by decide +kernel
theorem dX9_does_172 : decode cX9_does 172 = .ok (.ifCond .eq 10, 3) := by decide +kernel
theorem dX9_does_175 : decode cX9_does 175 = .ok (.aload_n 0, 1) := by decide +kernel
theorem dX9_does_176 : decode cX9_does 176 = .ok (.getfield 242, 3) := by decide +kernel
theorem dX9_does_179 : decode cX9_does 179 = .ok (.goto 5, 3) := by decide +kernel
theorem dX9_does_182 : decode cX9_does 182 = .ok (.bipush 20, 2) := by decide +kernel
theorem dX9_does_184 : decode cX9_does 184 = .ok (.ireturn, 1) := by decide +kernel
theorem dX9_read_0 : decode cX9_read 0 = .ok (.aload_n 0, 1) := by decide +kernel
theorem dX9_read_1 : decode cX9_read 1 = .ok (.invokevirtual 365, 3) := by decide +kernel
theorem dX9_read_4 : decode cX9_read 4 = .ok (.istore_n 1, 1) := by decide +kernel
theorem dX9_read_5 : decode cX9_read 5 = .ok (.aload_n 0, 1) := by decide +kernel
theorem dX9_read_6 : decode cX9_read 6 = .ok (.iconst 0, 1) := by decide +kernel
theorem dX9_read_7 : decode cX9_read 7 = .ok (.putfield 325, 3) := by decide +kernel
theorem dX9_read_10 : decode cX9_read 10 = .ok (.iload_n 1, 1) := by decide +kernel
theorem dX9_read_11 : decode cX9_read 11 = .ok (.ifCond .ne 17, 3) := by decide +kernel
theorem dX9_read_14 : decode cX9_read 14 = .ok (.aload_n 0, 1) := by decide +kernel
theorem dX9_read_15 : decode cX9_read 15 = .ok (.aload_n 0, 1) := by decide +kernel
theorem dX9_read_16 : decode cX9_read 16 = .ok (.getfield 330, 3) := by decide +kernel
theorem dX9_read_19 : decode cX9_read 19 = .ok (.putfield 74, 3) := by decide +kernel
theorem dX9_read_22 : decode cX9_read 22 = .ok (.aload_n 0, 1) := by decide +kernel
theorem dX9_read_23 : decode cX9_read 23 = .ok (.iconst 1, 1) := by decide +kernel
theorem dX9_read_24 : decode cX9_read 24 = .ok (.invokevirtual 220, 3) := by decide +kernel
theorem dX9_read_27 : decode cX9_read 27 = .ok (.ireturn, 1) := by decide +kernel
theorem dX9_read_28 : decode cX9_read 28 = .ok (.aload_n 0, 1) := by decide +kernel
theorem dX9_read_29 : decode cX9_read 29 = .ok (.aload_n 0, 1) := by decide +kernel
theorem dX9_read_30 : decode cX9_read 30 = .ok (.getfield 84, 3) := by decide +kernel
theorem dX9_read_33 : decode cX9_read 33 = .ok (.iconst 0, 1) := by decide +kernel
theorem dX9_read_34 : decode cX9_read 34 = .ok (.iconst 1, 1) := by decide +kernel
theorem dX9_read_35 : decode cX9_read 35 = .ok (.invokevirtual 368, 3) := by decide +kernel
theorem dX9_read_38 : decode cX9_read 38 = .ok (.aload_n 0, 1) := by decide +kernel
theorem dX9_read_39 : decode cX9_read 39 = .ok (.iconst 1, 1) := by decide +kernel
theorem dX9_read_40 : decode cX9_read 40 = .ok (.putfield 235, 3) := by decide +kernel
theorem dX9_read_43 : decode cX9_read 43 = .ok (.iconst 0, 1) := by decide +kernel
theorem dX9_read_44 : decode cX9_read 44 = .ok (.istore_n 2, 1) := by decide +kernel
theorem dX9_read_45 : decode cX9_read 45 = .ok (.iconst 0, 1) := by decide +kernel
theorem dX9_read_46 : decode cX9_read 46 = .ok (.istore_n 3, 1) := by decide +kernel
theorem dX9_read_47 : decode cX9_read 47 = .ok (.iload_n 3, 1) := by decide +kernel
theorem dX9_read_48 : decode cX9_read 48 = .ok (.aload_n 0, 1) := by decide +kernel
theorem dX9_read_49 : decode cX9_read 49 = .ok (.getfield 336, 3) := by decide +kernel
theorem dX9_read_52 : decode cX9_read 52 = .ok (.if_icmp .ge 19, 3) := by decide +kernel
theorem dX9_read_55 : decode cX9_read 55 = .ok (.iload_n 2, 1) := by decide +kernel
theorem dX9_read_56 : decode cX9_read 56 = .ok (.ifCond .ne 15, 3) := by decide +kernel
theorem dX9_read_59 : decode cX9_read 59 = .ok (.aload_n 0, 1) := by decide +kernel
theorem dX9_read_60 : decode cX9_read 60 = .ok (.iload_n 3, 1) := by decide +kernel
theorem dX9_read_61 : decode cX9_read 61 = .ok (.invokevirtual 372, 3) := by decide +kernel
theorem dX9_read_64 : decode cX9_read 64 = .ok (.istore_n 2, 1) := by decide +kernel
theorem dX9_read_65 : decode cX9_read 65 = .ok (.iinc 3 1, 3) := by decide +kernel
theorem dX9_read_68 : decode cX9_read 68 = .ok (.goto (-21), 3) := by decide +kernel
theorem dX9_read_71 : decode cX9_read 71 = .ok (.aload_n 0, 1) := by decide +kernel
theorem dX9_read_72 : decode cX9_read 72 = .ok (.iconst 0, 1) := by decide +kernel
theorem dX9_read_73 : decode cX9_read 73 = .ok (.putfield 235, 3) := by decide +kernel
theorem dX9_read_76 : decode cX9_read 76 = .ok (.iload_n 2, 1) := by decide +kernel
theorem dX9_read_77 : decode cX9_read 77 = .ok (.ifCond .le 31, 3) := by decide +kernel
theorem dX9_read_80 : decode cX9_read 80 = .ok (.aload_n 0, 1) := by decide +kernel
theorem dX9_read_81 : decode cX9_read 81 = .ok (.aload_n 0, 1) := by decide +kernel
theorem dX9_read_82 : decode cX9_read 82 = .ok (.getfield 84, 3) := by decide +kernel
theorem dX9_read_85 : decode cX9_read 85 = .ok (.iconst 0, 1) := by decide +kernel
theorem dX9_read_86 : decode cX9_read 86 = .ok (.iconst 0, 1) := by decide +kernel
theorem dX9_read_87 : decode cX9_read 87 = .ok (.invokevirtual 368, 3) := by decide +kernel
theorem dX9_read_90 : decode cX9_read 90 = .ok (.aload_n 0, 1) := by decide +kernel
theorem dX9_read_91 : decode cX9_read 91 = .ok (.iload_n 2, 1) := by decide +kernel
theorem dX9_read_92 : decode cX9_read 92 = .ok (.putfield 242, 3) := by decide +kernel
theorem dX9_read_95 : decode cX9_read 95 = .ok (.aload_n 0, 1) := by decide +kernel
theorem dX9_read_96 : decode cX9_read 96 = .ok (.iload_n 3, 1) := by decide +kernel
theorem dX9_read_97 : decode cX9_read 97 = .ok (.iconst 1, 1) := by decide +kernel
theorem dX9_read_98 : decode cX9_read 98 = .ok (.isub, 1) := by decide +kernel
theorem dX9_read_99 : decode cX9_read 99 = .ok (.putfield 239, 3) := by decide +kernel
theorem dX9_read_102 : decode cX9_read 102 = .ok (.aload_n 0, 1) := by decide +kernel
theorem dX9_read_103 : decode cX9_read 103 = .ok (.iconst 2, 1) := by decide +kernel
theorem dX9_read_104 : decode cX9_read 104 = .ok (.invokevirtual 220, 3) := by decide +kernel
theorem dX9_read_107 : decode cX9_read 107 = .ok (.ireturn, 1) := by decide +kernel
theorem dX9_read_108 : decode cX9_read 108 = .ok (.aload_n 0, 1) := by decide +kernel
theorem dX9_read_109 : decode cX9_read 109 = .ok (.iconst 0, 1) := by decide +kernel
theorem dX9_read_110 : decode cX9_read 110 = .ok (.putfield 87, 3) := by decide +kernel
theorem dX9_read_113 : decode cX9_read 113 = .ok (.aload_n 0, 1) := by decide +kernel
theorem dX9_read_114 : decode cX9_read 114 = .ok (.invokevirtual 375, 3) := by decide +kernel
theorem dX9_read_117 : decode cX9_read 117 = .ok (.iconst 0, 1) := by decide +kernel
theorem dX9_read_118 : decode cX9_read 118 = .ok (.istore 4, 2) := by decide +kernel
theorem dX9_read_120 : decode cX9_read 120 = .ok (.iload 4, 2) := by decide +kernel
theorem dX9_read_122 : decode cX9_read 122 = .ok (.sipush 2896, 3) := by decide +kernel
theorem dX9_read_125 : decode cX9_read 125 = .ok (.if_icmp .ge 32, 3) := by decide +kernel
theorem dX9_read_128 : decode cX9_read 128 = .ok (.aload_n 0, 1) := by decide +kernel
theorem dX9_read_129 : decode cX9_read 129 = .ok (.getfield 78, 3) := by decide +kernel
theorem dX9_read_132 : decode cX9_read 132 = .ok (.sipush 2896, 3) := by decide +kernel
theorem dX9_read_135 : decode cX9_read 135 = .ok (.aload_n 0, 1) := by decide +kernel
theorem dX9_read_136 : decode cX9_read 136 = .ok (.getfield 322, 3) := by decide +kernel
theorem dX9_read_139 : decode cX9_read 139 = .ok (.imul, 1) := by decide +kernel
theorem dX9_read_140 : decode cX9_read 140 = .ok (.iload 4, 2) := by decide +kernel
theorem dX9_read_142 : decode cX9_read 142 = .ok (.iadd, 1) := by decide +kernel
theorem dX9_read_143 : decode cX9_read 143 = .ok (.aload_n 0, 1) := by decide +kernel
theorem dX9_read_144 : decode cX9_read 144 = .ok (.getfield 84, 3) := by decide +kernel
theorem dX9_read_147 : decode cX9_read 147 = .ok (.iload 4, 2) := by decide +kernel
theorem dX9_read_149 : decode cX9_read 149 = .ok (.iaload, 1) := by decide +kernel
theorem dX9_read_150 : decode cX9_read 150 = .ok (.iastore, 1) := by decide +kernel
theorem dX9_read_151 : decode cX9_read 151 = .ok (.iinc 4 1, 3) := by decide +kernel
theorem dX9_read_154 : decode cX9_read 154 = .ok (.goto (-34), 3) := by decide +kernel
theorem dX9_read_157 : decode cX9_read 157 = .ok (.aload_n 0, 1) := by decide +kernel
theorem dX9_read_158 : decode cX9_read 158 = .ok (.dup, 1) := by decide +kernel
theorem dX9_read_159 : decode cX9_read 159 = .ok (.getfield 322, 3) := by decide +kernel
theorem dX9_read_162 : decode cX9_read 162 = .ok (.iconst 1, 1) := by decide +kernel
theorem dX9_read_163 : decode cX9_read 163 = .ok (.iadd, 1) := by decide +kernel
theorem dX9_read_164 : decode cX9_read 164 = .ok (.putfield 322, 3) := by decide +kernel
theorem dX9_read_167 : decode cX9_read 167 = .ok (.aload_n 0, 1) := by decide +kernel
theorem dX9_read_168 : decode cX9_read 168 = .ok (.getfield 336, 3) := by decide +kernel
theorem dX9_read_171 : decode cX9_read 171 = .ok (.ireturn, 1) := by decide +kernel
theorem dX9_faultPosition_0 : decode cX9_faultPosition 0 = .ok (.aload_n 0, 1) := by decide +kernel
theorem dX9_faultPosition_1 : decode cX9_faultPosition 1 = .ok (.getfield 74, 3) := by decide +kernel
theorem dX9_faultPosition_4 : decode cX9_faultPosition 4 = .ok (.ifCond .ge 9, 3) := by decide +kernel
theorem dX9_faultPosition_7 : decode cX9_faultPosition 7 = .ok (.aload_n 0, 1) := by decide +kernel
theorem dX9_faultPosition_8 : decode cX9_faultPosition 8 = .ok (.iconst 1, 1) := by decide +kernel
theorem dX9_faultPosition_9 : decode cX9_faultPosition 9 = .ok (.invokevirtual 220, 3) := by decide +kernel
theorem dX9_faultPosition_12 : decode cX9_faultPosition 12 = .ok (.ireturn, 1) := by decide +kernel
theorem dX9_faultPosition_13 : decode cX9_faultPosition 13 = .ok (.aload_n 0, 1) := by decide +kernel
theorem dX9_faultPosition_14 : decode cX9_faultPosition 14 = .ok (.iconst 0, 1) := by decide +kernel
theorem dX9_faultPosition_15 : decode cX9_faultPosition 15 = .ok (.putfield 87, 3) := by decide +kernel
theorem dX9_faultPosition_18 : decode cX9_faultPosition 18 = .ok (.aload_n 0, 1) := by decide +kernel
theorem dX9_faultPosition_19 : decode cX9_faultPosition 19 = .ok (.getfield 74, 3) := by decide +kernel
theorem dX9_faultPosition_22 : decode cX9_faultPosition 22 = .ok (.ireturn, 1) := by decide +kernel
theorem dX9_refusal_0 : decode cX9_refusal 0 = .ok (.aload_n 0, 1) := by decide +kernel
theorem dX9_refusal_1 : decode cX9_refusal 1 = .ok (.getfield 242, 3) := by decide +kernel
theorem dX9_refusal_4 : decode cX9_refusal 4 = .ok (.ifCond .ne 9, 3) := by decide +kernel
theorem dX9_refusal_7 : decode cX9_refusal 7 = .ok (.aload_n 0, 1) := by decide +kernel
theorem dX9_refusal_8 : decode cX9_refusal 8 = .ok (.iconst 1, 1) := by decide +kernel
theorem dX9_refusal_9 : decode cX9_refusal 9 = .ok (.invokevirtual 220, 3) := by decide +kernel
theorem dX9_refusal_12 : decode cX9_refusal 12 = .ok (.ireturn, 1) := by decide +kernel
theorem dX9_refusal_13 : decode cX9_refusal 13 = .ok (.aload_n 0, 1) := by decide +kernel
theorem dX9_refusal_14 : decode cX9_refusal 14 = .ok (.iconst 0, 1) := by decide +kernel
theorem dX9_refusal_15 : decode cX9_refusal 15 = .ok (.putfield 87, 3) := by decide +kernel
theorem dX9_refusal_18 : decode cX9_refusal 18 = .ok (.iload_n 1, 1) := by decide +kernel
theorem dX9_refusal_19 : decode cX9_refusal 19 = .ok (.ifCond .eq 10, 3) := by decide +kernel
theorem dX9_refusal_22 : decode cX9_refusal 22 = .ok (.aload_n 0, 1) := by decide +kernel
theorem dX9_refusal_23 : decode cX9_refusal 23 = .ok (.getfield 242, 3) := by decide +kernel
theorem dX9_refusal_26 : decode cX9_refusal 26 = .ok (.goto 7, 3) := by decide +kernel
theorem dX9_refusal_29 : decode cX9_refusal 29 = .ok (.aload_n 0, 1) := by decide +kernel
theorem dX9_refusal_30 : decode cX9_refusal 30 = .ok (.getfield 239, 3) := by decide +kernel
theorem dX9_refusal_33 : decode cX9_refusal 33 = .ok (.ireturn, 1) := by decide +kernel
theorem dX9_moves_0 : decode cX9_moves 0 = .ok (.iconst 0, 1) := by decide +kernel
theorem dX9_moves_1 : decode cX9_moves 1 = .ok (.istore_n 3, 1) := by decide +kernel
theorem dX9_moves_2 : decode cX9_moves 2 = .ok (.iload_n 3, 1) := by decide +kernel
theorem dX9_moves_3 : decode cX9_moves 3 = .ok (.aload_n 1, 1) := by decide +kernel
theorem dX9_moves_4 : decode cX9_moves 4 = .ok (.arraylength, 1) := by decide +kernel
theorem dX9_moves_5 : decode cX9_moves 5 = .ok (.if_icmp .ge 47, 3) := by decide +kernel
theorem dX9_moves_8 : decode cX9_moves 8 = .ok (.aload_n 0, 1) := by decide +kernel
theorem dX9_moves_9 : decode cX9_moves 9 = .ok (.getfield 378, 3) := by decide +kernel
theorem dX9_moves_12 : decode cX9_moves 12 = .ok (.ifCond .eq 15, 3) := by decide +kernel
theorem dX9_moves_15 : decode cX9_moves 15 = .ok (.aload_n 2, 1) := by decide +kernel
theorem dX9_moves_16 : decode cX9_moves 16 = .ok (.aload_n 0, 1) := by decide +kernel
theorem dX9_moves_17 : decode cX9_moves 17 = .ok (.getfield 381, 3) := by decide +kernel
theorem dX9_moves_20 : decode cX9_moves 20 = .ok (.aload_n 1, 1) := by decide +kernel
theorem dX9_moves_21 : decode cX9_moves 21 = .ok (.iload_n 3, 1) := by decide +kernel
theorem dX9_moves_22 : decode cX9_moves 22 = .ok (.iaload, 1) := by decide +kernel
theorem dX9_moves_23 : decode cX9_moves 23 = .ok (.iastore, 1) := by decide +kernel
theorem dX9_moves_24 : decode cX9_moves 24 = .ok (.goto 12, 3) := by decide +kernel
theorem dX9_moves_27 : decode cX9_moves 27 = .ok (.aload_n 1, 1) := by decide +kernel
theorem dX9_moves_28 : decode cX9_moves 28 = .ok (.iload_n 3, 1) := by decide +kernel
theorem dX9_moves_29 : decode cX9_moves 29 = .ok (.aload_n 2, 1) := by decide +kernel
theorem dX9_moves_30 : decode cX9_moves 30 = .ok (.aload_n 0, 1) := by decide +kernel
theorem dX9_moves_31 : decode cX9_moves 31 = .ok (.getfield 381, 3) := by decide +kernel
theorem dX9_moves_34 : decode cX9_moves 34 = .ok (.iaload, 1) := by decide +kernel
theorem dX9_moves_35 : decode cX9_moves 35 = .ok (.iastore, 1) := by decide +kernel
theorem dX9_moves_36 : decode cX9_moves 36 = .ok (.aload_n 0, 1) := by decide +kernel
theorem dX9_moves_37 : decode cX9_moves 37 = .ok (.dup, 1) := by decide +kernel
theorem dX9_moves_38 : decode cX9_moves 38 = .ok (.getfield 381, 3) := by decide +kernel
theorem dX9_moves_41 : decode cX9_moves 41 = .ok (.iconst 1, 1) := by decide +kernel
theorem dX9_moves_42 : decode cX9_moves 42 = .ok (.iadd, 1) := by decide +kernel
theorem dX9_moves_43 : decode cX9_moves 43 = .ok (.putfield 381, 3) := by decide +kernel
theorem dX9_moves_46 : decode cX9_moves 46 = .ok (.iinc 3 1, 3) := by decide +kernel
theorem dX9_moves_49 : decode cX9_moves 49 = .ok (.goto (-47), 3) := by decide +kernel
theorem dX9_moves_52 : decode cX9_moves 52 = .ok (.return_, 1) := by decide +kernel
theorem dX9_move_0 : decode cX9_move 0 = .ok (.aload_n 0, 1) := by decide +kernel
theorem dX9_move_1 : decode cX9_move 1 = .ok (.getfield 378, 3) := by decide +kernel
theorem dX9_move_4 : decode cX9_move 4 = .ok (.ifCond .eq 7, 3) := by decide +kernel
theorem dX9_move_7 : decode cX9_move 7 = .ok (.iload_n 1, 1) := by decide +kernel
theorem dX9_move_8 : decode cX9_move 8 = .ok (.goto 9, 3) := by decide +kernel
theorem dX9_move_11 : decode cX9_move 11 = .ok (.aload_n 2, 1) := by decide +kernel
theorem dX9_move_12 : decode cX9_move 12 = .ok (.aload_n 0, 1) := by decide +kernel
theorem dX9_move_13 : decode cX9_move 13 = .ok (.getfield 381, 3) := by decide +kernel
theorem dX9_move_16 : decode cX9_move 16 = .ok (.iaload, 1) := by decide +kernel
theorem dX9_move_17 : decode cX9_move 17 = .ok (.istore_n 3, 1) := by decide +kernel
theorem dX9_move_18 : decode cX9_move 18 = .ok (.aload_n 2, 1) := by decide +kernel
theorem dX9_move_19 : decode cX9_move 19 = .ok (.aload_n 0, 1) := by decide +kernel
theorem dX9_move_20 : decode cX9_move 20 = .ok (.getfield 381, 3) := by decide +kernel
theorem dX9_move_23 : decode cX9_move 23 = .ok (.iload_n 3, 1) := by decide +kernel
theorem dX9_move_24 : decode cX9_move 24 = .ok (.iastore, 1) := by decide +kernel
theorem dX9_move_25 : decode cX9_move 25 = .ok (.aload_n 0, 1) := by decide +kernel
theorem dX9_move_26 : decode cX9_move 26 = .ok (.dup, 1) := by decide +kernel
theorem dX9_move_27 : decode cX9_move 27 = .ok (.getfield 381, 3) := by decide +kernel
theorem dX9_move_30 : decode cX9_move 30 = .ok (.iconst 1, 1) := by decide +kernel
theorem dX9_move_31 : decode cX9_move 31 = .ok (.iadd, 1) := by decide +kernel
theorem dX9_move_32 : decode cX9_move 32 = .ok (.putfield 381, 3) := by decide +kernel
theorem dX9_move_35 : decode cX9_move 35 = .ok (.iload_n 3, 1) := by decide +kernel
theorem dX9_move_36 : decode cX9_move 36 = .ok (.ireturn, 1) := by decide +kernel
theorem dX9_passAll_0 : decode cX9_passAll 0 = .ok (.aload_n 0, 1) := by decide +kernel
theorem dX9_passAll_1 : decode cX9_passAll 1 = .ok (.iload_n 3, 1) := by decide +kernel
theorem dX9_passAll_2 : decode cX9_passAll 2 = .ok (.putfield 378, 3) := by decide +kernel
theorem dX9_passAll_5 : decode cX9_passAll 5 = .ok (.aload_n 0, 1) := by decide +kernel
theorem dX9_passAll_6 : decode cX9_passAll 6 = .ok (.iload_n 2, 1) := by decide +kernel
theorem dX9_passAll_7 : decode cX9_passAll 7 = .ok (.putfield 381, 3) := by decide +kernel
theorem dX9_passAll_10 : decode cX9_passAll 10 = .ok (.aload_n 0, 1) := by decide +kernel
theorem dX9_passAll_11 : decode cX9_passAll 11 = .ok (.aload_n 0, 1) := by decide +kernel
theorem dX9_passAll_12 : decode cX9_passAll 12 = .ok (.getfield 7, 3) := by decide +kernel
