theorem dX5_restedFrom_30 : decode cX5_restedFrom 30 = .ok (.getfield 9, 3) := by decide +kernel
theorem dX5_restedFrom_33 : decode cX5_restedFrom 33 = .ok (.iconst 4, 1) := by decide +kernel
theorem dX5_restedFrom_34 : decode cX5_restedFrom 34 = .ok (.iaload, 1) := by decide +kernel
theorem dX5_restedFrom_35 : decode cX5_restedFrom 35 = .ok (.goto 4, 3) := by decide +kernel
theorem dX5_restedFrom_38 : decode cX5_restedFrom 38 = .ok (.iconst 0, 1) := by decide +kernel
theorem dX5_restedFrom_39 : decode cX5_restedFrom 39 = .ok (.iadd, 1) := by decide +kernel
theorem dX5_restedFrom_40 : decode cX5_restedFrom 40 = .ok (.ireturn, 1) := by decide +kernel
theorem dX5_reasonAgainstTrip_0 : decode cX5_reasonAgainstTrip 0 = .ok (.aload_n 1, 1) := by decide +kernel
theorem dX5_reasonAgainstTrip_1 : decode cX5_reasonAgainstTrip 1 = .ok (.getfield 128, 3) := by decide +kernel
theorem dX5_reasonAgainstTrip_4 : decode cX5_reasonAgainstTrip 4 = .ok (.ifCond .eq 5, 3) := by decide +kernel
theorem dX5_reasonAgainstTrip_7 : decode cX5_reasonAgainstTrip 7 = .ok (.iconst 1, 1) := by decide +kernel
theorem dX5_reasonAgainstTrip_8 : decode cX5_reasonAgainstTrip 8 = .ok (.ireturn, 1) := by decide +kernel
theorem dX5_reasonAgainstTrip_9 : decode cX5_reasonAgainstTrip 9 = .ok (.iload_n 3, 1) := by decide +kernel
theorem dX5_reasonAgainstTrip_10 : decode cX5_reasonAgainstTrip 10 = .ok (.aload_n 0, 1) := by decide +kernel
theorem dX5_reasonAgainstTrip_11 : decode cX5_reasonAgainstTrip 11 = .ok (.getfield 51, 3) := by decide +kernel
theorem dX5_reasonAgainstTrip_14 : decode cX5_reasonAgainstTrip 14 = .ok (.if_icmp .lt 19, 3) := by decide +kernel
theorem dX5_reasonAgainstTrip_17 : decode cX5_reasonAgainstTrip 17 = .ok (.iload_n 3, 1) := by decide +kernel
theorem dX5_reasonAgainstTrip_18 : decode cX5_reasonAgainstTrip 18 = .ok (.aload_n 1, 1) := by decide +kernel
theorem dX5_reasonAgainstTrip_19 : decode cX5_reasonAgainstTrip 19 = .ok (.getfield 99, 3) := by decide +kernel
theorem dX5_reasonAgainstTrip_22 : decode cX5_reasonAgainstTrip 22 = .ok (.if_icmp .lt 11, 3) := by decide +kernel
theorem dX5_reasonAgainstTrip_25 : decode cX5_reasonAgainstTrip 25 = .ok (.iload_n 3, 1) := by decide +kernel
theorem dX5_reasonAgainstTrip_26 : decode cX5_reasonAgainstTrip 26 = .ok (.aload_n 1, 1) := by decide +kernel
theorem dX5_reasonAgainstTrip_27 : decode cX5_reasonAgainstTrip 27 = .ok (.getfield 105, 3) := by decide +kernel
theorem dX5_reasonAgainstTrip_30 : decode cX5_reasonAgainstTrip 30 = .ok (.if_icmp .le 5, 3) := by decide +kernel
theorem dX5_reasonAgainstTrip_33 : decode cX5_reasonAgainstTrip 33 = .ok (.iconst 2, 1) := by decide +kernel
theorem dX5_reasonAgainstTrip_34 : decode cX5_reasonAgainstTrip 34 = .ok (.ireturn, 1) := by decide +kernel
theorem dX5_reasonAgainstTrip_35 : decode cX5_reasonAgainstTrip 35 = .ok (.aload_n 0, 1) := by decide +kernel
theorem dX5_reasonAgainstTrip_36 : decode cX5_reasonAgainstTrip 36 = .ok (.aload_n 1, 1) := by decide +kernel
theorem dX5_reasonAgainstTrip_37 : decode cX5_reasonAgainstTrip 37 = .ok (.iload_n 3, 1) := by decide +kernel
theorem dX5_reasonAgainstTrip_38 : decode cX5_reasonAgainstTrip 38 = .ok (.invokevirtual 111, 3) := by decide +kernel
theorem dX5_reasonAgainstTrip_41 : decode cX5_reasonAgainstTrip 41 = .ok (.ifCond .ne 5, 3) := by decide +kernel
theorem dX5_reasonAgainstTrip_44 : decode cX5_reasonAgainstTrip 44 = .ok (.iconst 3, 1) := by decide +kernel
theorem dX5_reasonAgainstTrip_45 : decode cX5_reasonAgainstTrip 45 = .ok (.ireturn, 1) := by decide +kernel
theorem dX5_reasonAgainstTrip_46 : decode cX5_reasonAgainstTrip 46 = .ok (.aload_n 2, 1) := by decide +kernel
theorem dX5_reasonAgainstTrip_47 : decode cX5_reasonAgainstTrip 47 = .ok (.getfield 131, 3) := by decide +kernel
theorem dX5_reasonAgainstTrip_50 : decode cX5_reasonAgainstTrip 50 = .ok (.aload_n 1, 1) := by decide +kernel
theorem dX5_reasonAgainstTrip_51 : decode cX5_reasonAgainstTrip 51 = .ok (.getfield 134, 3) := by decide +kernel
theorem dX5_reasonAgainstTrip_54 : decode cX5_reasonAgainstTrip 54 = .ok (.if_icmp .ge 5, 3) := by decide +kernel
theorem dX5_reasonAgainstTrip_57 : decode cX5_reasonAgainstTrip 57 = .ok (.iconst 4, 1) := by decide +kernel
theorem dX5_reasonAgainstTrip_58 : decode cX5_reasonAgainstTrip 58 = .ok (.ireturn, 1) := by decide +kernel
theorem dX5_reasonAgainstTrip_59 : decode cX5_reasonAgainstTrip 59 = .ok (.iload_n 3, 1) := by decide +kernel
theorem dX5_reasonAgainstTrip_60 : decode cX5_reasonAgainstTrip 60 = .ok (.aload_n 2, 1) := by decide +kernel
theorem dX5_reasonAgainstTrip_61 : decode cX5_reasonAgainstTrip 61 = .ok (.invokevirtual 137, 3) := by decide +kernel
theorem dX5_reasonAgainstTrip_64 : decode cX5_reasonAgainstTrip 64 = .ok (.if_icmp .ge 5, 3) := by decide +kernel
theorem dX5_reasonAgainstTrip_67 : decode cX5_reasonAgainstTrip 67 = .ok (.iconst 5, 1) := by decide +kernel
theorem dX5_reasonAgainstTrip_68 : decode cX5_reasonAgainstTrip 68 = .ok (.ireturn, 1) := by decide +kernel
theorem dX5_reasonAgainstTrip_69 : decode cX5_reasonAgainstTrip 69 = .ok (.aload_n 2, 1) := by decide +kernel
theorem dX5_reasonAgainstTrip_70 : decode cX5_reasonAgainstTrip 70 = .ok (.invokevirtual 140, 3) := by decide +kernel
theorem dX5_reasonAgainstTrip_73 : decode cX5_reasonAgainstTrip 73 = .ok (.aload_n 1, 1) := by decide +kernel
theorem dX5_reasonAgainstTrip_74 : decode cX5_reasonAgainstTrip 74 = .ok (.invokevirtual 143, 3) := by decide +kernel
theorem dX5_reasonAgainstTrip_77 : decode cX5_reasonAgainstTrip 77 = .ok (.if_icmp .eq 6, 3) := by decide +kernel
theorem dX5_reasonAgainstTrip_80 : decode cX5_reasonAgainstTrip 80 = .ok (.bipush 6, 2) := by decide +kernel
theorem dX5_reasonAgainstTrip_82 : decode cX5_reasonAgainstTrip 82 = .ok (.ireturn, 1) := by decide +kernel
theorem dX5_reasonAgainstTrip_83 : decode cX5_reasonAgainstTrip 83 = .ok (.iload_n 3, 1) := by decide +kernel
theorem dX5_reasonAgainstTrip_84 : decode cX5_reasonAgainstTrip 84 = .ok (.aload_n 0, 1) := by decide +kernel
theorem dX5_reasonAgainstTrip_85 : decode cX5_reasonAgainstTrip 85 = .ok (.aload_n 2, 1) := by decide +kernel
theorem dX5_reasonAgainstTrip_86 : decode cX5_reasonAgainstTrip 86 = .ok (.invokevirtual 146, 3) := by decide +kernel
theorem dX5_reasonAgainstTrip_89 : decode cX5_reasonAgainstTrip 89 = .ok (.if_icmp .ge 8, 3) := by decide +kernel
theorem dX5_reasonAgainstTrip_92 : decode cX5_reasonAgainstTrip 92 = .ok (.bipush 7, 2) := by decide +kernel
theorem dX5_reasonAgainstTrip_94 : decode cX5_reasonAgainstTrip 94 = .ok (.goto 4, 3) := by decide +kernel
theorem dX5_reasonAgainstTrip_97 : decode cX5_reasonAgainstTrip 97 = .ok (.iconst 0, 1) := by decide +kernel
theorem dX5_reasonAgainstTrip_98 : decode cX5_reasonAgainstTrip 98 = .ok (.ireturn, 1) := by decide +kernel
theorem dX5_addTrip_0 : decode cX5_addTrip 0 = .ok (.aload_n 0, 1) := by decide +kernel
theorem dX5_addTrip_1 : decode cX5_addTrip 1 = .ok (.iload_n 1, 1) := by decide +kernel
theorem dX5_addTrip_2 : decode cX5_addTrip 2 = .ok (.invokevirtual 150, 3) := by decide +kernel
theorem dX5_addTrip_5 : decode cX5_addTrip 5 = .ok (.ifCond .eq 11, 3) := by decide +kernel
theorem dX5_addTrip_8 : decode cX5_addTrip 8 = .ok (.aload_n 0, 1) := by decide +kernel
theorem dX5_addTrip_9 : decode cX5_addTrip 9 = .ok (.iload_n 2, 1) := by decide +kernel
theorem dX5_addTrip_10 : decode cX5_addTrip 10 = .ok (.invokevirtual 154, 3) := by decide +kernel
theorem dX5_addTrip_13 : decode cX5_addTrip 13 = .ok (.ifCond .ne 4, 3) := by decide +kernel
theorem dX5_addTrip_16 : decode cX5_addTrip 16 = .ok (.return_, 1) := by decide +kernel
theorem dX5_addTrip_17 : decode cX5_addTrip 17 = .ok (.aload_n 0, 1) := by decide +kernel
theorem dX5_addTrip_18 : decode cX5_addTrip 18 = .ok (.getfield 20, 3) := by decide +kernel
theorem dX5_addTrip_21 : decode cX5_addTrip 21 = .ok (.iload_n 1, 1) := by decide +kernel
theorem dX5_addTrip_22 : decode cX5_addTrip 22 = .ok (.aaload, 1) := by decide +kernel
theorem dX5_addTrip_23 : decode cX5_addTrip 23 = .ok (.astore 4, 2) := by decide +kernel
theorem dX5_addTrip_25 : decode cX5_addTrip 25 = .ok (.aload 4, 2) := by decide +kernel
theorem dX5_addTrip_27 : decode cX5_addTrip 27 = .ok (.iload_n 2, 1) := by decide +kernel
theorem dX5_addTrip_28 : decode cX5_addTrip 28 = .ok (.iload_n 3, 1) := by decide +kernel
theorem dX5_addTrip_29 : decode cX5_addTrip 29 = .ok (.invokevirtual 157, 3) := by decide +kernel
theorem dX5_addTrip_32 : decode cX5_addTrip 32 = .ok (.aload_n 0, 1) := by decide +kernel
theorem dX5_addTrip_33 : decode cX5_addTrip 33 = .ok (.getfield 26, 3) := by decide +kernel
theorem dX5_addTrip_36 : decode cX5_addTrip 36 = .ok (.iload_n 2, 1) := by decide +kernel
theorem dX5_addTrip_37 : decode cX5_addTrip 37 = .ok (.aaload, 1) := by decide +kernel
theorem dX5_addTrip_38 : decode cX5_addTrip 38 = .ok (.iconst 0, 1) := by decide +kernel
theorem dX5_addTrip_39 : decode cX5_addTrip 39 = .ok (.iload_n 1, 1) := by decide +kernel
theorem dX5_addTrip_40 : decode cX5_addTrip 40 = .ok (.iload_n 3, 1) := by decide +kernel
theorem dX5_addTrip_41 : decode cX5_addTrip 41 = .ok (.aload 4, 2) := by decide +kernel
theorem dX5_addTrip_43 : decode cX5_addTrip 43 = .ok (.getfield 161, 3) := by decide +kernel
theorem dX5_addTrip_46 : decode cX5_addTrip 46 = .ok (.aload 4, 2) := by decide +kernel
theorem dX5_addTrip_48 : decode cX5_addTrip 48 = .ok (.invokevirtual 162, 3) := by decide +kernel
theorem dX5_addTrip_51 : decode cX5_addTrip 51 = .ok (.invokevirtual 165, 3) := by decide +kernel
theorem dX5_addTrip_54 : decode cX5_addTrip 54 = .ok (.return_, 1) := by decide +kernel
theorem dX5_reasonAgainstRelease_0 : decode cX5_reasonAgainstRelease 0 = .ok (.aload_n 0, 1) := by decide +kernel
theorem dX5_reasonAgainstRelease_1 : decode cX5_reasonAgainstRelease 1 = .ok (.iload_n 1, 1) := by decide +kernel
theorem dX5_reasonAgainstRelease_2 : decode cX5_reasonAgainstRelease 2 = .ok (.invokevirtual 150, 3) := by decide +kernel
theorem dX5_reasonAgainstRelease_5 : decode cX5_reasonAgainstRelease 5 = .ok (.ifCond .eq 32, 3) := by decide +kernel
theorem dX5_reasonAgainstRelease_8 : decode cX5_reasonAgainstRelease 8 = .ok (.aload_n 0, 1) := by decide +kernel
theorem dX5_reasonAgainstRelease_9 : decode cX5_reasonAgainstRelease 9 = .ok (.getfield 20, 3) := by decide +kernel
theorem dX5_reasonAgainstRelease_12 : decode cX5_reasonAgainstRelease 12 = .ok (.iload_n 1, 1) := by decide +kernel
theorem dX5_reasonAgainstRelease_13 : decode cX5_reasonAgainstRelease 13 = .ok (.aaload, 1) := by decide +kernel
theorem dX5_reasonAgainstRelease_14 : decode cX5_reasonAgainstRelease 14 = .ok (.getfield 128, 3) := by decide +kernel
theorem dX5_reasonAgainstRelease_17 : decode cX5_reasonAgainstRelease 17 = .ok (.iconst 1, 1) := by decide +kernel
theorem dX5_reasonAgainstRelease_18 : decode cX5_reasonAgainstRelease 18 = .ok (.if_icmp .ne 19, 3) := by decide +kernel
theorem dX5_reasonAgainstRelease_21 : decode cX5_reasonAgainstRelease 21 = .ok (.aload_n 0, 1) := by decide +kernel
theorem dX5_reasonAgainstRelease_22 : decode cX5_reasonAgainstRelease 22 = .ok (.getfield 20, 3) := by decide +kernel
theorem dX5_reasonAgainstRelease_25 : decode cX5_reasonAgainstRelease 25 = .ok (.iload_n 1, 1) := by decide +kernel
theorem dX5_reasonAgainstRelease_26 : decode cX5_reasonAgainstRelease 26 = .ok (.aaload, 1) := by decide +kernel
theorem dX5_reasonAgainstRelease_27 : decode cX5_reasonAgainstRelease 27 = .ok (.getfield 168, 3) := by decide +kernel
theorem dX5_reasonAgainstRelease_30 : decode cX5_reasonAgainstRelease 30 = .ok (.aload_n 0, 1) := by decide +kernel
theorem dX5_reasonAgainstRelease_31 : decode cX5_reasonAgainstRelease 31 = .ok (.getfield 51, 3) := by decide +kernel
theorem dX5_reasonAgainstRelease_34 : decode cX5_reasonAgainstRelease 34 = .ok (.if_icmp .gt 6, 3) := by decide +kernel
theorem dX5_reasonAgainstRelease_37 : decode cX5_reasonAgainstRelease 37 = .ok (.bipush 13, 2) := by decide +kernel
theorem dX5_reasonAgainstRelease_39 : decode cX5_reasonAgainstRelease 39 = .ok (.ireturn, 1) := by decide +kernel
theorem dX5_reasonAgainstRelease_40 : decode cX5_reasonAgainstRelease 40 = .ok (.aload_n 0, 1) := by decide +kernel
theorem dX5_reasonAgainstRelease_41 : decode cX5_reasonAgainstRelease 41 = .ok (.getfield 20, 3) := by decide +kernel
theorem dX5_reasonAgainstRelease_44 : decode cX5_reasonAgainstRelease 44 = .ok (.iload_n 1, 1) := by decide +kernel
theorem dX5_reasonAgainstRelease_45 : decode cX5_reasonAgainstRelease 45 = .ok (.aaload, 1) := by decide +kernel
theorem dX5_reasonAgainstRelease_46 : decode cX5_reasonAgainstRelease 46 = .ok (.getfield 171, 3) := by decide +kernel
theorem dX5_reasonAgainstRelease_49 : decode cX5_reasonAgainstRelease 49 = .ok (.istore_n 2, 1) := by decide +kernel
theorem dX5_reasonAgainstRelease_50 : decode cX5_reasonAgainstRelease 50 = .ok (.aload_n 0, 1) := by decide +kernel
theorem dX5_reasonAgainstRelease_51 : decode cX5_reasonAgainstRelease 51 = .ok (.iload_n 2, 1) := by decide +kernel
theorem dX5_reasonAgainstRelease_52 : decode cX5_reasonAgainstRelease 52 = .ok (.invokevirtual 154, 3) := by decide +kernel
theorem dX5_reasonAgainstRelease_55 : decode cX5_reasonAgainstRelease 55 = .ok (.ifCond .eq 16, 3) := by decide +kernel
theorem dX5_reasonAgainstRelease_58 : decode cX5_reasonAgainstRelease 58 = .ok (.aload_n 0, 1) := by decide +kernel
theorem dX5_reasonAgainstRelease_59 : decode cX5_reasonAgainstRelease 59 = .ok (.getfield 26, 3) := by decide +kernel
theorem dX5_reasonAgainstRelease_62 : decode cX5_reasonAgainstRelease 62 = .ok (.iload_n 2, 1) := by decide +kernel
theorem dX5_reasonAgainstRelease_63 : decode cX5_reasonAgainstRelease 63 = .ok (.aaload, 1) := by decide +kernel
theorem dX5_reasonAgainstRelease_64 : decode cX5_reasonAgainstRelease 64 = .ok (.iload_n 1, 1) := by decide +kernel
theorem dX5_reasonAgainstRelease_65 : decode cX5_reasonAgainstRelease 65 = .ok (.invokevirtual 174, 3) := by decide +kernel
theorem dX5_reasonAgainstRelease_68 : decode cX5_reasonAgainstRelease 68 = .ok (.ifCond .ne 6, 3) := by decide +kernel
theorem dX5_reasonAgainstRelease_71 : decode cX5_reasonAgainstRelease 71 = .ok (.bipush 14, 2) := by decide +kernel
theorem dX5_reasonAgainstRelease_73 : decode cX5_reasonAgainstRelease 73 = .ok (.ireturn, 1) := by decide +kernel
theorem dX5_reasonAgainstRelease_74 : decode cX5_reasonAgainstRelease 74 = .ok (.iconst 0, 1) := by decide +kernel
theorem dX5_reasonAgainstRelease_75 : decode cX5_reasonAgainstRelease 75 = .ok (.ireturn, 1) := by decide +kernel
theorem dX5_removeTrip_0 : decode cX5_removeTrip 0 = .ok (.aload_n 0, 1) := by decide +kernel
theorem dX5_removeTrip_1 : decode cX5_removeTrip 1 = .ok (.iload_n 1, 1) := by decide +kernel
theorem dX5_removeTrip_2 : decode cX5_removeTrip 2 = .ok (.invokevirtual 150, 3) := by decide +kernel
theorem dX5_removeTrip_5 : decode cX5_removeTrip 5 = .ok (.ifCond .eq 19, 3) := by decide +kernel
theorem dX5_removeTrip_8 : decode cX5_removeTrip 8 = .ok (.aload_n 0, 1) := by decide +kernel
theorem dX5_removeTrip_9 : decode cX5_removeTrip 9 = .ok (.aload_n 0, 1) := by decide +kernel
theorem dX5_removeTrip_10 : decode cX5_removeTrip 10 = .ok (.getfield 20, 3) := by decide +kernel
theorem dX5_removeTrip_13 : decode cX5_removeTrip 13 = .ok (.iload_n 1, 1) := by decide +kernel
theorem dX5_removeTrip_14 : decode cX5_removeTrip 14 = .ok (.aaload, 1) := by decide +kernel
theorem dX5_removeTrip_15 : decode cX5_removeTrip 15 = .ok (.getfield 171, 3) := by decide +kernel
theorem dX5_removeTrip_18 : decode cX5_removeTrip 18 = .ok (.invokevirtual 154, 3) := by decide +kernel
theorem dX5_removeTrip_21 : decode cX5_removeTrip 21 = .ok (.ifCond .ne 4, 3) := by decide +kernel
theorem dX5_removeTrip_24 : decode cX5_removeTrip 24 = .ok (.return_, 1) := by decide +kernel
theorem dX5_removeTrip_25 : decode cX5_removeTrip 25 = .ok (.aload_n 0, 1) := by decide +kernel
theorem dX5_removeTrip_26 : decode cX5_removeTrip 26 = .ok (.getfield 26, 3) := by decide +kernel
theorem dX5_removeTrip_29 : decode cX5_removeTrip 29 = .ok (.aload_n 0, 1) := by decide +kernel
theorem dX5_removeTrip_30 : decode cX5_removeTrip 30 = .ok (.getfield 20, 3) := by decide +kernel
theorem dX5_removeTrip_33 : decode cX5_removeTrip 33 = .ok (.iload_n 1, 1) := by decide +kernel
theorem dX5_removeTrip_34 : decode cX5_removeTrip 34 = .ok (.aaload, 1) := by decide +kernel
theorem dX5_removeTrip_35 : decode cX5_removeTrip 35 = .ok (.getfield 171, 3) := by decide +kernel
theorem dX5_removeTrip_38 : decode cX5_removeTrip 38 = .ok (.aaload, 1) := by decide +kernel
theorem dX5_removeTrip_39 : decode cX5_removeTrip 39 = .ok (.invokevirtual 177, 3) := by decide +kernel
theorem dX5_removeTrip_42 : decode cX5_removeTrip 42 = .ok (.aload_n 0, 1) := by decide +kernel
theorem dX5_removeTrip_43 : decode cX5_removeTrip 43 = .ok (.getfield 20, 3) := by decide +kernel
theorem dX5_removeTrip_46 : decode cX5_removeTrip 46 = .ok (.iload_n 1, 1) := by decide +kernel
theorem dX5_removeTrip_47 : decode cX5_removeTrip 47 = .ok (.aaload, 1) := by decide +kernel
theorem dX5_removeTrip_48 : decode cX5_removeTrip 48 = .ok (.invokevirtual 180, 3) := by decide +kernel
theorem dX5_removeTrip_51 : decode cX5_removeTrip 51 = .ok (.return_, 1) := by decide +kernel
theorem dX5_reasonAgainstRun_0 : decode cX5_reasonAgainstRun 0 = .ok (.iload_n 2, 1) := by decide +kernel
theorem dX5_reasonAgainstRun_1 : decode cX5_reasonAgainstRun 1 = .ok (.aload_n 0, 1) := by decide +kernel
theorem dX5_reasonAgainstRun_2 : decode cX5_reasonAgainstRun 2 = .ok (.getfield 51, 3) := by decide +kernel
theorem dX5_reasonAgainstRun_5 : decode cX5_reasonAgainstRun 5 = .ok (.if_icmp .ge 5, 3) := by decide +kernel
theorem dX5_reasonAgainstRun_8 : decode cX5_reasonAgainstRun 8 = .ok (.iconst 2, 1) := by decide +kernel
theorem dX5_reasonAgainstRun_9 : decode cX5_reasonAgainstRun 9 = .ok (.ireturn, 1) := by decide +kernel
theorem dX5_reasonAgainstRun_10 : decode cX5_reasonAgainstRun 10 = .ok (.iload_n 2, 1) := by decide +kernel
theorem dX5_reasonAgainstRun_11 : decode cX5_reasonAgainstRun 11 = .ok (.aload_n 1, 1) := by decide +kernel
theorem dX5_reasonAgainstRun_12 : decode cX5_reasonAgainstRun 12 = .ok (.getfield 183, 3) := by decide +kernel
theorem dX5_reasonAgainstRun_15 : decode cX5_reasonAgainstRun 15 = .ok (.if_icmp .ge 6, 3) := by decide +kernel
theorem dX5_reasonAgainstRun_18 : decode cX5_reasonAgainstRun 18 = .ok (.bipush 8, 2) := by decide +kernel
theorem dX5_reasonAgainstRun_20 : decode cX5_reasonAgainstRun 20 = .ok (.ireturn, 1) := by decide +kernel
theorem dX5_reasonAgainstRun_21 : decode cX5_reasonAgainstRun 21 = .ok (.iload_n 3, 1) := by decide +kernel
theorem dX5_reasonAgainstRun_22 : decode cX5_reasonAgainstRun 22 = .ok (.invokestatic 185, 3) := by decide +kernel
theorem dX5_reasonAgainstRun_25 : decode cX5_reasonAgainstRun 25 = .ok (.aload_n 1, 1) := by decide +kernel
theorem dX5_reasonAgainstRun_26 : decode cX5_reasonAgainstRun 26 = .ok (.getfield 190, 3) := by decide +kernel
theorem dX5_reasonAgainstRun_29 : decode cX5_reasonAgainstRun 29 = .ok (.if_icmp .le 6, 3) := by decide +kernel
theorem dX5_reasonAgainstRun_32 : decode cX5_reasonAgainstRun 32 = .ok (.bipush 9, 2) := by decide +kernel
theorem dX5_reasonAgainstRun_34 : decode cX5_reasonAgainstRun 34 = .ok (.ireturn, 1) := by decide +kernel
theorem dX5_reasonAgainstRun_35 : decode cX5_reasonAgainstRun 35 = .ok (.iconst 0, 1) := by decide +kernel
theorem dX5_reasonAgainstRun_36 : decode cX5_reasonAgainstRun 36 = .ok (.istore 4, 2) := by decide +kernel
theorem dX5_reasonAgainstRun_38 : decode cX5_reasonAgainstRun 38 = .ok (.iload 4, 2) := by decide +kernel
theorem dX5_reasonAgainstRun_40 : decode cX5_reasonAgainstRun 40 = .ok (.aload_n 0, 1) := by decide +kernel
theorem dX5_reasonAgainstRun_41 : decode cX5_reasonAgainstRun 41 = .ok (.getfield 58, 3) := by decide +kernel
theorem dX5_reasonAgainstRun_44 : decode cX5_reasonAgainstRun 44 = .ok (.if_icmp .ge 35, 3) := by decide +kernel
theorem dX5_reasonAgainstRun_47 : decode cX5_reasonAgainstRun 47 = .ok (.iload_n 3, 1) := by decide +kernel
theorem dX5_reasonAgainstRun_48 : decode cX5_reasonAgainstRun 48 = .ok (.iload 4, 2) := by decide +kernel
theorem dX5_reasonAgainstRun_50 : decode cX5_reasonAgainstRun 50 = .ok (.invokestatic 193, 3) := by decide +kernel
theorem dX5_reasonAgainstRun_53 : decode cX5_reasonAgainstRun 53 = .ok (.ifCond .eq 20, 3) := by decide +kernel
theorem dX5_reasonAgainstRun_56 : decode cX5_reasonAgainstRun 56 = .ok (.iload_n 2, 1) := by decide +kernel
theorem dX5_reasonAgainstRun_57 : decode cX5_reasonAgainstRun 57 = .ok (.aload_n 0, 1) := by decide +kernel
theorem dX5_reasonAgainstRun_58 : decode cX5_reasonAgainstRun 58 = .ok (.getfield 26, 3) := by decide +kernel
theorem dX5_reasonAgainstRun_61 : decode cX5_reasonAgainstRun 61 = .ok (.iload 4, 2) := by decide +kernel
theorem dX5_reasonAgainstRun_63 : decode cX5_reasonAgainstRun 63 = .ok (.aaload, 1) := by decide +kernel
theorem dX5_reasonAgainstRun_64 : decode cX5_reasonAgainstRun 64 = .ok (.invokevirtual 137, 3) := by decide +kernel
theorem dX5_reasonAgainstRun_67 : decode cX5_reasonAgainstRun 67 = .ok (.if_icmp .ge 6, 3) := by decide +kernel
theorem dX5_reasonAgainstRun_70 : decode cX5_reasonAgainstRun 70 = .ok (.bipush 10, 2) := by decide +kernel
theorem dX5_reasonAgainstRun_72 : decode cX5_reasonAgainstRun 72 = .ok (.ireturn, 1) := by decide +kernel
theorem dX5_reasonAgainstRun_73 : decode cX5_reasonAgainstRun 73 = .ok (.iinc 4 1, 3) := by decide +kernel
theorem dX5_reasonAgainstRun_76 : decode cX5_reasonAgainstRun 76 = .ok (.goto (-38), 3) := by decide +kernel
theorem dX5_reasonAgainstRun_79 : decode cX5_reasonAgainstRun 79 = .ok (.iconst 0, 1) := by decide +kernel
theorem dX5_reasonAgainstRun_80 : decode cX5_reasonAgainstRun 80 = .ok (.istore 4, 2) := by decide +kernel
theorem dX5_reasonAgainstRun_82 : decode cX5_reasonAgainstRun 82 = .ok (.iload 4, 2) := by decide +kernel
theorem dX5_reasonAgainstRun_84 : decode cX5_reasonAgainstRun 84 = .ok (.aload_n 0, 1) := by decide +kernel
theorem dX5_reasonAgainstRun_85 : decode cX5_reasonAgainstRun 85 = .ok (.getfield 58, 3) := by decide +kernel
theorem dX5_reasonAgainstRun_88 : decode cX5_reasonAgainstRun 88 = .ok (.if_icmp .ge 38, 3) := by decide +kernel
theorem dX5_reasonAgainstRun_91 : decode cX5_reasonAgainstRun 91 = .ok (.iload_n 3, 1) := by decide +kernel
theorem dX5_reasonAgainstRun_92 : decode cX5_reasonAgainstRun 92 = .ok (.iload 4, 2) := by decide +kernel
theorem dX5_reasonAgainstRun_94 : decode cX5_reasonAgainstRun 94 = .ok (.invokestatic 193, 3) := by decide +kernel
theorem dX5_reasonAgainstRun_97 : decode cX5_reasonAgainstRun 97 = .ok (.ifCond .eq 23, 3) := by decide +kernel
theorem dX5_reasonAgainstRun_100 : decode cX5_reasonAgainstRun 100 = .ok (.aload_n 0, 1) := by decide +kernel
theorem dX5_reasonAgainstRun_101 : decode cX5_reasonAgainstRun 101 = .ok (.getfield 26, 3) := by decide +kernel
theorem dX5_reasonAgainstRun_104 : decode cX5_reasonAgainstRun 104 = .ok (.iload 4, 2) := by decide +kernel
theorem dX5_reasonAgainstRun_106 : decode cX5_reasonAgainstRun 106 = .ok (.aaload, 1) := by decide +kernel
theorem dX5_reasonAgainstRun_107 : decode cX5_reasonAgainstRun 107 = .ok (.invokevirtual 140, 3) := by decide +kernel
theorem dX5_reasonAgainstRun_110 : decode cX5_reasonAgainstRun 110 = .ok (.aload_n 1, 1) := by decide +kernel
theorem dX5_reasonAgainstRun_111 : decode cX5_reasonAgainstRun 111 = .ok (.getfield 197, 3) := by decide +kernel
theorem dX5_reasonAgainstRun_114 : decode cX5_reasonAgainstRun 114 = .ok (.if_icmp .eq 6, 3) := by decide +kernel
theorem dX5_reasonAgainstRun_117 : decode cX5_reasonAgainstRun 117 = .ok (.bipush 11, 2) := by decide +kernel
theorem dX5_reasonAgainstRun_119 : decode cX5_reasonAgainstRun 119 = .ok (.ireturn, 1) := by decide +kernel
theorem dX5_reasonAgainstRun_120 : decode cX5_reasonAgainstRun 120 = .ok (.iinc 4 1, 3) := by decide +kernel
theorem dX5_reasonAgainstRun_123 : decode cX5_reasonAgainstRun 123 = .ok (.goto (-41), 3) := by decide +kernel
theorem dX5_reasonAgainstRun_126 : decode cX5_reasonAgainstRun 126 = .ok (.iconst 0, 1) := by decide +kernel
theorem dX5_reasonAgainstRun_127 : decode cX5_reasonAgainstRun 127 = .ok (.ireturn, 1) := by decide +kernel
theorem dX5_isRider_0 : decode cX5_isRider 0 = .ok (.iload_n 0, 1) := by decide +kernel
theorem dX5_isRider_1 : decode cX5_isRider 1 = .ok (.iload_n 1, 1) := by decide +kernel
theorem dX5_isRider_2 : decode cX5_isRider 2 = .ok (.ishr, 1) := by decide +kernel
theorem dX5_isRider_3 : decode cX5_isRider 3 = .ok (.iconst 1, 1) := by decide +kernel
theorem dX5_isRider_4 : decode cX5_isRider 4 = .ok (.iand, 1) := by decide +kernel
theorem dX5_isRider_5 : decode cX5_isRider 5 = .ok (.ifCond .eq 7, 3) := by decide +kernel
theorem dX5_isRider_8 : decode cX5_isRider 8 = .ok (.iconst 1, 1) := by decide +kernel
theorem dX5_isRider_9 : decode cX5_isRider 9 = .ok (.goto 4, 3) := by decide +kernel
theorem dX5_isRider_12 : decode cX5_isRider 12 = .ok (.iconst 0, 1) := by decide +kernel
theorem dX5_isRider_13 : decode cX5_isRider 13 = .ok (.ireturn, 1) := by decide +kernel
theorem dX5_addRun_0 : decode cX5_addRun 0 = .ok (.aload_n 0, 1) := by decide +kernel
theorem dX5_addRun_1 : decode cX5_addRun 1 = .ok (.iload_n 1, 1) := by decide +kernel
theorem dX5_addRun_2 : decode cX5_addRun 2 = .ok (.invokevirtual 200, 3) := by decide +kernel
theorem dX5_addRun_5 : decode cX5_addRun 5 = .ok (.ifCond .ne 4, 3) := by decide +kernel
theorem dX5_addRun_8 : decode cX5_addRun 8 = .ok (.return_, 1) := by decide +kernel
theorem dX5_addRun_9 : decode cX5_addRun 9 = .ok (.aload_n 0, 1) := by decide +kernel
theorem dX5_addRun_10 : decode cX5_addRun 10 = .ok (.getfield 32, 3) := by decide +kernel
theorem dX5_addRun_13 : decode cX5_addRun 13 = .ok (.iload_n 1, 1) := by decide +kernel
theorem dX5_addRun_14 : decode cX5_addRun 14 = .ok (.aaload, 1) := by decide +kernel
theorem dX5_addRun_15 : decode cX5_addRun 15 = .ok (.astore 4, 2) := by decide +kernel
theorem dX5_addRun_17 : decode cX5_addRun 17 = .ok (.iload_n 2, 1) := by decide +kernel
theorem dX5_addRun_18 : decode cX5_addRun 18 = .ok (.aload_n 0, 1) := by decide +kernel
theorem dX5_addRun_19 : decode cX5_addRun 19 = .ok (.getfield 9, 3) := by decide +kernel
theorem dX5_addRun_22 : decode cX5_addRun 22 = .ok (.iconst 1, 1) := by decide +kernel
theorem dX5_addRun_23 : decode cX5_addRun 23 = .ok (.iaload, 1) := by decide +kernel
theorem dX5_addRun_24 : decode cX5_addRun 24 = .ok (.iadd, 1) := by decide +kernel
theorem dX5_addRun_25 : decode cX5_addRun 25 = .ok (.istore 5, 2) := by decide +kernel
theorem dX5_addRun_27 : decode cX5_addRun 27 = .ok (.iconst 0, 1) := by decide +kernel
theorem dX5_addRun_28 : decode cX5_addRun 28 = .ok (.istore 6, 2) := by decide +kernel
theorem dX5_addRun_30 : decode cX5_addRun 30 = .ok (.iload 6, 2) := by decide +kernel
theorem dX5_addRun_32 : decode cX5_addRun 32 = .ok (.aload_n 0, 1) := by decide +kernel
theorem dX5_addRun_33 : decode cX5_addRun 33 = .ok (.getfield 58, 3) := by decide +kernel
theorem dX5_addRun_36 : decode cX5_addRun 36 = .ok (.if_icmp .ge 49, 3) := by decide +kernel
theorem dX5_addRun_39 : decode cX5_addRun 39 = .ok (.iload_n 3, 1) := by decide +kernel
theorem dX5_addRun_40 : decode cX5_addRun 40 = .ok (.iload 6, 2) := by decide +kernel
theorem dX5_addRun_42 : decode cX5_addRun 42 = .ok (.invokestatic 193, 3) := by decide +kernel
theorem dX5_addRun_45 : decode cX5_addRun 45 = .ok (.ifCond .eq 34, 3) := by decide +kernel
theorem dX5_addRun_48 : decode cX5_addRun 48 = .ok (.aload_n 0, 1) := by decide +kernel
theorem dX5_addRun_49 : decode cX5_addRun 49 = .ok (.getfield 26, 3) := by decide +kernel
theorem dX5_addRun_52 : decode cX5_addRun 52 = .ok (.iload 6, 2) := by decide +kernel
theorem dX5_addRun_54 : decode cX5_addRun 54 = .ok (.aaload, 1) := by decide +kernel
theorem dX5_addRun_55 : decode cX5_addRun 55 = .ok (.iconst 1, 1) := by decide +kernel
theorem dX5_addRun_56 : decode cX5_addRun 56 = .ok (.iload_n 1, 1) := by decide +kernel
theorem dX5_addRun_57 : decode cX5_addRun 57 = .ok (.iload_n 2, 1) := by decide +kernel
theorem dX5_addRun_58 : decode cX5_addRun 58 = .ok (.iload 5, 2) := by decide +kernel
theorem dX5_addRun_60 : decode cX5_addRun 60 = .ok (.aload 4, 2) := by decide +kernel
theorem dX5_addRun_62 : decode cX5_addRun 62 = .ok (.invokevirtual 203, 3) := by decide +kernel
theorem dX5_addRun_65 : decode cX5_addRun 65 = .ok (.invokevirtual 165, 3) := by decide +kernel
theorem dX5_addRun_68 : decode cX5_addRun 68 = .ok (.aload 4, 2) := by decide +kernel
theorem dX5_addRun_70 : decode cX5_addRun 70 = .ok (.dup, 1) := by decide +kernel
theorem dX5_addRun_71 : decode cX5_addRun 71 = .ok (.getfield 204, 3) := by decide +kernel
theorem dX5_addRun_74 : decode cX5_addRun 74 = .ok (.iconst 1, 1) := by decide +kernel
theorem dX5_addRun_75 : decode cX5_addRun 75 = .ok (.iadd, 1) := by decide +kernel
theorem dX5_addRun_76 : decode cX5_addRun 76 = .ok (.putfield 204, 3) := by decide +kernel
theorem dX5_addRun_79 : decode cX5_addRun 79 = .ok (.iinc 6 1, 3) := by decide +kernel
theorem dX5_addRun_82 : decode cX5_addRun 82 = .ok (.goto (-52), 3) := by decide +kernel
theorem dX5_addRun_85 : decode cX5_addRun 85 = .ok (.aload 4, 2) := by decide +kernel
theorem dX5_addRun_87 : decode cX5_addRun 87 = .ok (.aload 4, 2) := by decide +kernel
theorem dX5_addRun_89 : decode cX5_addRun 89 = .ok (.invokevirtual 203, 3) := by decide +kernel
theorem dX5_addRun_92 : decode cX5_addRun 92 = .ok (.putfield 197, 3) := by decide +kernel
theorem dX5_addRun_95 : decode cX5_addRun 95 = .ok (.aload 4, 2) := by decide +kernel
theorem dX5_addRun_97 : decode cX5_addRun 97 = .ok (.iload 5, 2) := by decide +kernel
theorem dX5_addRun_99 : decode cX5_addRun 99 = .ok (.putfield 183, 3) := by decide +kernel
theorem dX5_addRun_102 : decode cX5_addRun 102 = .ok (.aload 4, 2) := by decide +kernel
theorem dX5_addRun_104 : decode cX5_addRun 104 = .ok (.dup, 1) := by decide +kernel
theorem dX5_addRun_105 : decode cX5_addRun 105 = .ok (.getfield 207, 3) := by decide +kernel
theorem dX5_addRun_108 : decode cX5_addRun 108 = .ok (.iconst 1, 1) := by decide +kernel
theorem dX5_addRun_109 : decode cX5_addRun 109 = .ok (.iadd, 1) := by decide +kernel
theorem dX5_addRun_110 : decode cX5_addRun 110 = .ok (.putfield 207, 3) := by decide +kernel
theorem dX5_addRun_113 : decode cX5_addRun 113 = .ok (.return_, 1) := by decide +kernel
theorem dX5_fromWithoutRide_0 : decode cX5_fromWithoutRide 0 = .ok (.aload_n 2, 1) := by decide +kernel
theorem dX5_fromWithoutRide_1 : decode cX5_fromWithoutRide 1 = .ok (.getfield 131, 3) := by decide +kernel
theorem dX5_fromWithoutRide_4 : decode cX5_fromWithoutRide 4 = .ok (.aload_n 1, 1) := by decide +kernel
theorem dX5_fromWithoutRide_5 : decode cX5_fromWithoutRide 5 = .ok (.getfield 134, 3) := by decide +kernel
theorem dX5_fromWithoutRide_8 : decode cX5_fromWithoutRide 8 = .ok (.if_icmp .lt 14, 3) := by decide +kernel
theorem dX5_fromWithoutRide_11 : decode cX5_fromWithoutRide 11 = .ok (.aload_n 2, 1) := by decide +kernel
theorem dX5_fromWithoutRide_12 : decode cX5_fromWithoutRide 12 = .ok (.invokevirtual 140, 3) := by decide +kernel
theorem dX5_fromWithoutRide_15 : decode cX5_fromWithoutRide 15 = .ok (.aload_n 1, 1) := by decide +kernel
theorem dX5_fromWithoutRide_16 : decode cX5_fromWithoutRide 16 = .ok (.invokevirtual 143, 3) := by decide +kernel
theorem dX5_fromWithoutRide_19 : decode cX5_fromWithoutRide 19 = .ok (.if_icmp .eq 7, 3) := by decide +kernel
theorem dX5_fromWithoutRide_22 : decode cX5_fromWithoutRide 22 = .ok (.sipush 5000, 3) := by decide +kernel
theorem dX5_fromWithoutRide_25 : decode cX5_fromWithoutRide 25 = .ok (.ireturn, 1) := by decide +kernel
theorem dX5_fromWithoutRide_26 : decode cX5_fromWithoutRide 26 = .ok (.aload_n 2, 1) := by decide +kernel
theorem dX5_fromWithoutRide_27 : decode cX5_fromWithoutRide 27 = .ok (.invokevirtual 137, 3) := by decide +kernel
theorem dX5_fromWithoutRide_30 : decode cX5_fromWithoutRide 30 = .ok (.aload_n 0, 1) := by decide +kernel
theorem dX5_fromWithoutRide_31 : decode cX5_fromWithoutRide 31 = .ok (.aload_n 2, 1) := by decide +kernel
theorem dX5_fromWithoutRide_32 : decode cX5_fromWithoutRide 32 = .ok (.invokevirtual 146, 3) := by decide +kernel
theorem dX5_fromWithoutRide_35 : decode cX5_fromWithoutRide 35 = .ok (.invokestatic 102, 3) := by decide +kernel
theorem dX5_fromWithoutRide_38 : decode cX5_fromWithoutRide 38 = .ok (.ireturn, 1) := by decide +kernel
theorem dX5_fromWithRide_0 : decode cX5_fromWithRide 0 = .ok (.aload_n 2, 1) := by decide +kernel
theorem dX5_fromWithRide_1 : decode cX5_fromWithRide 1 = .ok (.getfield 131, 3) := by decide +kernel
theorem dX5_fromWithRide_4 : decode cX5_fromWithRide 4 = .ok (.aload_n 1, 1) := by decide +kernel
theorem dX5_fromWithRide_5 : decode cX5_fromWithRide 5 = .ok (.getfield 134, 3) := by decide +kernel
theorem dX5_fromWithRide_8 : decode cX5_fromWithRide 8 = .ok (.if_icmp .lt 25, 3) := by decide +kernel
theorem dX5_fromWithRide_11 : decode cX5_fromWithRide 11 = .ok (.aload_n 2, 1) := by decide +kernel
theorem dX5_fromWithRide_12 : decode cX5_fromWithRide 12 = .ok (.invokevirtual 140, 3) := by decide +kernel
theorem dX5_fromWithRide_15 : decode cX5_fromWithRide 15 = .ok (.aload_n 3, 1) := by decide +kernel
theorem dX5_fromWithRide_16 : decode cX5_fromWithRide 16 = .ok (.getfield 197, 3) := by decide +kernel
theorem dX5_fromWithRide_19 : decode cX5_fromWithRide 19 = .ok (.if_icmp .ne 14, 3) := by decide +kernel
theorem dX5_fromWithRide_22 : decode cX5_fromWithRide 22 = .ok (.aload_n 3, 1) := by decide +kernel
theorem dX5_fromWithRide_23 : decode cX5_fromWithRide 23 = .ok (.invokevirtual 203, 3) := by decide +kernel
theorem dX5_fromWithRide_26 : decode cX5_fromWithRide 26 = .ok (.aload_n 1, 1) := by decide +kernel
theorem dX5_fromWithRide_27 : decode cX5_fromWithRide 27 = .ok (.invokevirtual 143, 3) := by decide +kernel
theorem dX5_fromWithRide_30 : decode cX5_fromWithRide 30 = .ok (.if_icmp .eq 7, 3) := by decide +kernel
theorem dX5_fromWithRide_33 : decode cX5_fromWithRide 33 = .ok (.sipush 5000, 3) := by decide +kernel
theorem dX5_fromWithRide_36 : decode cX5_fromWithRide 36 = .ok (.ireturn, 1) := by decide +kernel
theorem dX5_fromWithRide_37 : decode cX5_fromWithRide 37 = .ok (.aload_n 0, 1) := by decide +kernel
theorem dX5_fromWithRide_38 : decode cX5_fromWithRide 38 = .ok (.getfield 51, 3) := by decide +kernel
theorem dX5_fromWithRide_41 : decode cX5_fromWithRide 41 = .ok (.aload_n 2, 1) := by decide +kernel
theorem dX5_fromWithRide_42 : decode cX5_fromWithRide 42 = .ok (.invokevirtual 137, 3) := by decide +kernel
theorem dX5_fromWithRide_45 : decode cX5_fromWithRide 45 = .ok (.aload_n 3, 1) := by decide +kernel
theorem dX5_fromWithRide_46 : decode cX5_fromWithRide 46 = .ok (.getfield 183, 3) := by decide +kernel
theorem dX5_fromWithRide_49 : decode cX5_fromWithRide 49 = .ok (.invokestatic 102, 3) := by decide +kernel
theorem dX5_fromWithRide_52 : decode cX5_fromWithRide 52 = .ok (.invokestatic 102, 3) := by decide +kernel
theorem dX5_fromWithRide_55 : decode cX5_fromWithRide 55 = .ok (.istore 4, 2) := by decide +kernel
theorem dX5_fromWithRide_57 : decode cX5_fromWithRide 57 = .ok (.iload 4, 2) := by decide +kernel
theorem dX5_fromWithRide_59 : decode cX5_fromWithRide 59 = .ok (.aload_n 0, 1) := by decide +kernel
theorem dX5_fromWithRide_60 : decode cX5_fromWithRide 60 = .ok (.getfield 9, 3) := by decide +kernel
theorem dX5_fromWithRide_63 : decode cX5_fromWithRide 63 = .ok (.iconst 1, 1) := by decide +kernel
theorem dX5_fromWithRide_64 : decode cX5_fromWithRide 64 = .ok (.iaload, 1) := by decide +kernel
theorem dX5_fromWithRide_65 : decode cX5_fromWithRide 65 = .ok (.iadd, 1) := by decide +kernel
theorem dX5_fromWithRide_66 : decode cX5_fromWithRide 66 = .ok (.aload_n 0, 1) := by decide +kernel
theorem dX5_fromWithRide_67 : decode cX5_fromWithRide 67 = .ok (.aload_n 2, 1) := by decide +kernel
theorem dX5_fromWithRide_68 : decode cX5_fromWithRide 68 = .ok (.invokevirtual 146, 3) := by decide +kernel
theorem dX5_fromWithRide_71 : decode cX5_fromWithRide 71 = .ok (.invokestatic 102, 3) := by decide +kernel
theorem dX5_fromWithRide_74 : decode cX5_fromWithRide 74 = .ok (.ireturn, 1) := by decide +kernel
theorem dX5_fromAnyWay_0 : decode cX5_fromAnyWay 0 = .ok (.sipush 5000, 3) := by decide +kernel
theorem dX5_fromAnyWay_3 : decode cX5_fromAnyWay 3 = .ok (.istore_n 2, 1) := by decide +kernel
theorem dX5_fromAnyWay_4 : decode cX5_fromAnyWay 4 = .ok (.iconst 0, 1) := by decide +kernel
theorem dX5_fromAnyWay_5 : decode cX5_fromAnyWay 5 = .ok (.istore_n 3, 1) := by decide +kernel
theorem dX5_fromAnyWay_6 : decode cX5_fromAnyWay 6 = .ok (.iload_n 3, 1) := by decide +kernel
theorem dX5_fromAnyWay_7 : decode cX5_fromAnyWay 7 = .ok (.aload_n 0, 1) := by decide +kernel
theorem dX5_fromAnyWay_8 : decode cX5_fromAnyWay 8 = .ok (.getfield 58, 3) := by decide +kernel
theorem dX5_fromAnyWay_11 : decode cX5_fromAnyWay 11 = .ok (.if_icmp .ge 66, 3) := by decide +kernel
theorem dX5_fromAnyWay_14 : decode cX5_fromAnyWay 14 = .ok (.iload_n 2, 1) := by decide +kernel
theorem dX5_fromAnyWay_15 : decode cX5_fromAnyWay 15 = .ok (.aload_n 0, 1) := by decide +kernel
theorem dX5_fromAnyWay_16 : decode cX5_fromAnyWay 16 = .ok (.aload_n 1, 1) := by decide +kernel
theorem dX5_fromAnyWay_17 : decode cX5_fromAnyWay 17 = .ok (.aload_n 0, 1) := by decide +kernel
theorem dX5_fromAnyWay_18 : decode cX5_fromAnyWay 18 = .ok (.getfield 26, 3) := by decide +kernel
theorem dX5_fromAnyWay_21 : decode cX5_fromAnyWay 21 = .ok (.iload_n 3, 1) := by decide +kernel
theorem dX5_fromAnyWay_22 : decode cX5_fromAnyWay 22 = .ok (.aaload, 1) := by decide +kernel
theorem dX5_fromAnyWay_23 : decode cX5_fromAnyWay 23 = .ok (.invokevirtual 210, 3) := by decide +kernel
theorem dX5_fromAnyWay_26 : decode cX5_fromAnyWay 26 = .ok (.invokestatic 108, 3) := by decide +kernel
theorem dX5_fromAnyWay_29 : decode cX5_fromAnyWay 29 = .ok (.istore_n 2, 1) := by decide +kernel
theorem dX5_fromAnyWay_30 : decode cX5_fromAnyWay 30 = .ok (.iconst 0, 1) := by decide +kernel
theorem dX5_fromAnyWay_31 : decode cX5_fromAnyWay 31 = .ok (.istore 4, 2) := by decide +kernel
theorem dX5_fromAnyWay_33 : decode cX5_fromAnyWay 33 = .ok (.iload 4, 2) := by decide +kernel
theorem dX5_fromAnyWay_35 : decode cX5_fromAnyWay 35 = .ok (.aload_n 0, 1) := by decide +kernel
theorem dX5_fromAnyWay_36 : decode cX5_fromAnyWay 36 = .ok (.getfield 61, 3) := by decide +kernel
theorem dX5_fromAnyWay_39 : decode cX5_fromAnyWay 39 = .ok (.if_icmp .ge 32, 3) := by decide +kernel
theorem dX5_fromAnyWay_42 : decode cX5_fromAnyWay 42 = .ok (.iload_n 2, 1) := by decide +kernel
theorem dX5_fromAnyWay_43 : decode cX5_fromAnyWay 43 = .ok (.aload_n 0, 1) := by decide +kernel
theorem dX5_fromAnyWay_44 : decode cX5_fromAnyWay 44 = .ok (.aload_n 1, 1) := by decide +kernel
theorem dX5_fromAnyWay_45 : decode cX5_fromAnyWay 45 = .ok (.aload_n 0, 1) := by decide +kernel
theorem dX5_fromAnyWay_46 : decode cX5_fromAnyWay 46 = .ok (.getfield 26, 3) := by decide +kernel
theorem dX5_fromAnyWay_49 : decode cX5_fromAnyWay 49 = .ok (.iload_n 3, 1) := by decide +kernel
theorem dX5_fromAnyWay_50 : decode cX5_fromAnyWay 50 = .ok (.aaload, 1) := by decide +kernel
theorem dX5_fromAnyWay_51 : decode cX5_fromAnyWay 51 = .ok (.aload_n 0, 1) := by decide +kernel
theorem dX5_fromAnyWay_52 : decode cX5_fromAnyWay 52 = .ok (.getfield 32, 3) := by decide +kernel
theorem dX5_fromAnyWay_55 : decode cX5_fromAnyWay 55 = .ok (.iload 4, 2) := by decide +kernel
theorem dX5_fromAnyWay_57 : decode cX5_fromAnyWay 57 = .ok (.aaload, 1) := by decide +kernel
theorem dX5_fromAnyWay_58 : decode cX5_fromAnyWay 58 = .ok (.invokevirtual 214, 3) := by decide +kernel
theorem dX5_fromAnyWay_61 : decode cX5_fromAnyWay 61 = .ok (.invokestatic 108, 3) := by decide +kernel
theorem dX5_fromAnyWay_64 : decode cX5_fromAnyWay 64 = .ok (.istore_n 2, 1) := by decide +kernel
theorem dX5_fromAnyWay_65 : decode cX5_fromAnyWay 65 = .ok (.iinc 4 1, 3) := by decide +kernel
theorem dX5_fromAnyWay_68 : decode cX5_fromAnyWay 68 = .ok (.goto (-35), 3) := by decide +kernel
theorem dX5_fromAnyWay_71 : decode cX5_fromAnyWay 71 = .ok (.iinc 3 1, 3) := by decide +kernel
theorem dX5_fromAnyWay_74 : decode cX5_fromAnyWay 74 = .ok (.goto (-68), 3) := by decide +kernel
theorem dX5_fromAnyWay_77 : decode cX5_fromAnyWay 77 = .ok (.iload_n 2, 1) := by decide +kernel
theorem dX5_fromAnyWay_78 : decode cX5_fromAnyWay 78 = .ok (.ireturn, 1) := by decide +kernel
theorem dX5_reasonAgainstServing_0 : decode cX5_reasonAgainstServing 0 = .ok (.aload_n 0, 1) := by decide +kernel
theorem dX5_reasonAgainstServing_1 : decode cX5_reasonAgainstServing 1 = .ok (.iload_n 1, 1) := by decide +kernel
theorem dX5_reasonAgainstServing_2 : decode cX5_reasonAgainstServing 2 = .ok (.invokevirtual 150, 3) := by decide +kernel
theorem dX5_reasonAgainstServing_5 : decode cX5_reasonAgainstServing 5 = .ok (.ifCond .eq 15, 3) := by decide +kernel
theorem dX5_reasonAgainstServing_8 : decode cX5_reasonAgainstServing 8 = .ok (.aload_n 0, 1) := by decide +kernel
theorem dX5_reasonAgainstServing_9 : decode cX5_reasonAgainstServing 9 = .ok (.getfield 20, 3) := by decide +kernel
theorem dX5_reasonAgainstServing_12 : decode cX5_reasonAgainstServing 12 = .ok (.iload_n 1, 1) := by decide +kernel
theorem dX5_reasonAgainstServing_13 : decode cX5_reasonAgainstServing 13 = .ok (.aaload, 1) := by decide +kernel
theorem dX5_reasonAgainstServing_14 : decode cX5_reasonAgainstServing 14 = .ok (.getfield 128, 3) := by decide +kernel
theorem dX5_reasonAgainstServing_17 : decode cX5_reasonAgainstServing 17 = .ok (.ifCond .eq 5, 3) := by decide +kernel
theorem dX5_reasonAgainstServing_20 : decode cX5_reasonAgainstServing 20 = .ok (.iconst 1, 1) := by decide +kernel
theorem dX5_reasonAgainstServing_21 : decode cX5_reasonAgainstServing 21 = .ok (.ireturn, 1) := by decide +kernel
theorem dX5_reasonAgainstServing_22 : decode cX5_reasonAgainstServing 22 = .ok (.aload_n 0, 1) := by decide +kernel
theorem dX5_reasonAgainstServing_23 : decode cX5_reasonAgainstServing 23 = .ok (.getfield 20, 3) := by decide +kernel
theorem dX5_reasonAgainstServing_26 : decode cX5_reasonAgainstServing 26 = .ok (.iload_n 1, 1) := by decide +kernel
theorem dX5_reasonAgainstServing_27 : decode cX5_reasonAgainstServing 27 = .ok (.aaload, 1) := by decide +kernel
theorem dX5_reasonAgainstServing_28 : decode cX5_reasonAgainstServing 28 = .ok (.astore_n 3, 1) := by decide +kernel
theorem dX5_reasonAgainstServing_29 : decode cX5_reasonAgainstServing 29 = .ok (.aload_n 0, 1) := by decide +kernel
theorem dX5_reasonAgainstServing_30 : decode cX5_reasonAgainstServing 30 = .ok (.aload_n 3, 1) := by decide +kernel
theorem dX5_reasonAgainstServing_31 : decode cX5_reasonAgainstServing 31 = .ok (.aload_n 0, 1) := by decide +kernel
theorem dX5_reasonAgainstServing_32 : decode cX5_reasonAgainstServing 32 = .ok (.getfield 51, 3) := by decide +kernel
theorem dX5_reasonAgainstServing_35 : decode cX5_reasonAgainstServing 35 = .ok (.aload_n 0, 1) := by decide +kernel
theorem dX5_reasonAgainstServing_36 : decode cX5_reasonAgainstServing 36 = .ok (.aload_n 3, 1) := by decide +kernel
theorem dX5_reasonAgainstServing_37 : decode cX5_reasonAgainstServing 37 = .ok (.invokevirtual 218, 3) := by decide +kernel
theorem dX5_reasonAgainstServing_40 : decode cX5_reasonAgainstServing 40 = .ok (.invokestatic 102, 3) := by decide +kernel
theorem dX5_reasonAgainstServing_43 : decode cX5_reasonAgainstServing 43 = .ok (.invokevirtual 222, 3) := by decide +kernel
theorem dX5_reasonAgainstServing_46 : decode cX5_reasonAgainstServing 46 = .ok (.istore 4, 2) := by decide +kernel
theorem dX5_reasonAgainstServing_48 : decode cX5_reasonAgainstServing 48 = .ok (.iload 4, 2) := by decide +kernel
theorem dX5_reasonAgainstServing_50 : decode cX5_reasonAgainstServing 50 = .ok (.iconst (-1), 1) := by decide +kernel
theorem dX5_reasonAgainstServing_51 : decode cX5_reasonAgainstServing 51 = .ok (.if_icmp .ne 6, 3) := by decide +kernel
theorem dX5_reasonAgainstServing_54 : decode cX5_reasonAgainstServing 54 = .ok (.bipush 12, 2) := by decide +kernel
theorem dX5_reasonAgainstServing_56 : decode cX5_reasonAgainstServing 56 = .ok (.ireturn, 1) := by decide +kernel
theorem dX5_reasonAgainstServing_57 : decode cX5_reasonAgainstServing 57 = .ok (.aload_n 0, 1) := by decide +kernel
theorem dX5_reasonAgainstServing_58 : decode cX5_reasonAgainstServing 58 = .ok (.aload_n 3, 1) := by decide +kernel
theorem dX5_reasonAgainstServing_59 : decode cX5_reasonAgainstServing 59 = .ok (.iload 4, 2) := by decide +kernel
theorem dX5_reasonAgainstServing_61 : decode cX5_reasonAgainstServing 61 = .ok (.aload_n 2, 1) := by decide +kernel
theorem dX5_reasonAgainstServing_62 : decode cX5_reasonAgainstServing 62 = .ok (.invokevirtual 226, 3) := by decide +kernel
theorem dX5_reasonAgainstServing_65 : decode cX5_reasonAgainstServing 65 = .ok (.ifCond .eq 7, 3) := by decide +kernel
theorem dX5_reasonAgainstServing_68 : decode cX5_reasonAgainstServing 68 = .ok (.iconst 0, 1) := by decide +kernel
theorem dX5_reasonAgainstServing_69 : decode cX5_reasonAgainstServing 69 = .ok (.goto 5, 3) := by decide +kernel
theorem dX5_reasonAgainstServing_72 : decode cX5_reasonAgainstServing 72 = .ok (.bipush 12, 2) := by decide +kernel
theorem dX5_reasonAgainstServing_74 : decode cX5_reasonAgainstServing 74 = .ok (.ireturn, 1) := by decide +kernel
theorem dX5_chooseWay_0 : decode cX5_chooseWay 0 = .ok (.iconst 0, 1) := by decide +kernel
theorem dX5_chooseWay_1 : decode cX5_chooseWay 1 = .ok (.istore 4, 2) := by decide +kernel
theorem dX5_chooseWay_3 : decode cX5_chooseWay 3 = .ok (.iload 4, 2) := by decide +kernel
theorem dX5_chooseWay_5 : decode cX5_chooseWay 5 = .ok (.aload_n 0, 1) := by decide +kernel
theorem dX5_chooseWay_6 : decode cX5_chooseWay 6 = .ok (.getfield 58, 3) := by decide +kernel
theorem dX5_chooseWay_9 : decode cX5_chooseWay 9 = .ok (.if_icmp .ge 35, 3) := by decide +kernel
theorem dX5_chooseWay_12 : decode cX5_chooseWay 12 = .ok (.aload_n 0, 1) := by decide +kernel
theorem dX5_chooseWay_13 : decode cX5_chooseWay 13 = .ok (.aload_n 1, 1) := by decide +kernel
theorem dX5_chooseWay_14 : decode cX5_chooseWay 14 = .ok (.aload_n 0, 1) := by decide +kernel
theorem dX5_chooseWay_15 : decode cX5_chooseWay 15 = .ok (.getfield 26, 3) := by decide +kernel
theorem dX5_chooseWay_18 : decode cX5_chooseWay 18 = .ok (.iload 4, 2) := by decide +kernel
theorem dX5_chooseWay_20 : decode cX5_chooseWay 20 = .ok (.aaload, 1) := by decide +kernel
theorem dX5_chooseWay_21 : decode cX5_chooseWay 21 = .ok (.invokevirtual 210, 3) := by decide +kernel
theorem dX5_chooseWay_24 : decode cX5_chooseWay 24 = .ok (.iload_n 2, 1) := by decide +kernel
theorem dX5_chooseWay_25 : decode cX5_chooseWay 25 = .ok (.if_icmp .gt 13, 3) := by decide +kernel
theorem dX5_chooseWay_28 : decode cX5_chooseWay 28 = .ok (.aload_n 3, 1) := by decide +kernel
theorem dX5_chooseWay_29 : decode cX5_chooseWay 29 = .ok (.iload_n 2, 1) := by decide +kernel
theorem dX5_chooseWay_30 : decode cX5_chooseWay 30 = .ok (.iload 4, 2) := by decide +kernel
theorem dX5_chooseWay_32 : decode cX5_chooseWay 32 = .ok (.iconst (-1), 1) := by decide +kernel
theorem dX5_chooseWay_33 : decode cX5_chooseWay 33 = .ok (.invokevirtual 230, 3) := by decide +kernel
theorem dX5_chooseWay_36 : decode cX5_chooseWay 36 = .ok (.iconst 1, 1) := by decide +kernel
theorem dX5_chooseWay_37 : decode cX5_chooseWay 37 = .ok (.ireturn, 1) := by decide +kernel
theorem dX5_chooseWay_38 : decode cX5_chooseWay 38 = .ok (.iinc 4 1, 3) := by decide +kernel
theorem dX5_chooseWay_41 : decode cX5_chooseWay 41 = .ok (.goto (-38), 3) := by decide +kernel
theorem dX5_chooseWay_44 : decode cX5_chooseWay 44 = .ok (.iconst 0, 1) := by decide +kernel
theorem dX5_chooseWay_45 : decode cX5_chooseWay 45 = .ok (.istore 4, 2) := by decide +kernel
theorem dX5_chooseWay_47 : decode cX5_chooseWay 47 = .ok (.iload 4, 2) := by decide +kernel
theorem dX5_chooseWay_49 : decode cX5_chooseWay 49 = .ok (.aload_n 0, 1) := by decide +kernel
theorem dX5_chooseWay_50 : decode cX5_chooseWay 50 = .ok (.getfield 58, 3) := by decide +kernel
theorem dX5_chooseWay_53 : decode cX5_chooseWay 53 = .ok (.if_icmp .ge 61, 3) := by decide +kernel
theorem dX5_chooseWay_56 : decode cX5_chooseWay 56 = .ok (.iconst 0, 1) := by decide +kernel
theorem dX5_chooseWay_57 : decode cX5_chooseWay 57 = .ok (.istore 5, 2) := by decide +kernel
theorem dX5_chooseWay_59 : decode cX5_chooseWay 59 = .ok (.iload 5, 2) := by decide +kernel
theorem dX5_chooseWay_61 : decode cX5_chooseWay 61 = .ok (.aload_n 0, 1) := by decide +kernel
theorem dX5_chooseWay_62 : decode cX5_chooseWay 62 = .ok (.getfield 61, 3) := by decide +kernel
theorem dX5_chooseWay_65 : decode cX5_chooseWay 65 = .ok (.if_icmp .ge 43, 3) := by decide +kernel
theorem dX5_chooseWay_68 : decode cX5_chooseWay 68 = .ok (.aload_n 0, 1) := by decide +kernel
theorem dX5_chooseWay_69 : decode cX5_chooseWay 69 = .ok (.aload_n 1, 1) := by decide +kernel
theorem dX5_chooseWay_70 : decode cX5_chooseWay 70 = .ok (.aload_n 0, 1) := by decide +kernel
theorem dX5_chooseWay_71 : decode cX5_chooseWay 71 = .ok (.getfield 26, 3) := by decide +kernel
theorem dX5_chooseWay_74 : decode cX5_chooseWay 74 = .ok (.iload 4, 2) := by decide +kernel
theorem dX5_chooseWay_76 : decode cX5_chooseWay 76 = .ok (.aaload, 1) := by decide +kernel
theorem dX5_chooseWay_77 : decode cX5_chooseWay 77 = .ok (.aload_n 0, 1) := by decide +kernel
theorem dX5_chooseWay_78 : decode cX5_chooseWay 78 = .ok (.getfield 32, 3) := by decide +kernel
theorem dX5_chooseWay_81 : decode cX5_chooseWay 81 = .ok (.iload 5, 2) := by decide +kernel
theorem dX5_chooseWay_83 : decode cX5_chooseWay 83 = .ok (.aaload, 1) := by decide +kernel
theorem dX5_chooseWay_84 : decode cX5_chooseWay 84 = .ok (.invokevirtual 214, 3) := by decide +kernel
theorem dX5_chooseWay_87 : decode cX5_chooseWay 87 = .ok (.iload_n 2, 1) := by decide +kernel
theorem dX5_chooseWay_88 : decode cX5_chooseWay 88 = .ok (.if_icmp .gt 14, 3) := by decide +kernel
theorem dX5_chooseWay_91 : decode cX5_chooseWay 91 = .ok (.aload_n 3, 1) := by decide +kernel
theorem dX5_chooseWay_92 : decode cX5_chooseWay 92 = .ok (.iload_n 2, 1) := by decide +kernel
theorem dX5_chooseWay_93 : decode cX5_chooseWay 93 = .ok (.iload 4, 2) := by decide +kernel
theorem dX5_chooseWay_95 : decode cX5_chooseWay 95 = .ok (.iload 5, 2) := by decide +kernel
theorem dX5_chooseWay_97 : decode cX5_chooseWay 97 = .ok (.invokevirtual 230, 3) := by decide +kernel
theorem dX5_chooseWay_100 : decode cX5_chooseWay 100 = .ok (.iconst 1, 1) := by decide +kernel
theorem dX5_chooseWay_101 : decode cX5_chooseWay 101 = .ok (.ireturn, 1) := by decide +kernel
theorem dX5_chooseWay_102 : decode cX5_chooseWay 102 = .ok (.iinc 5 1, 3) := by decide +kernel
theorem dX5_chooseWay_105 : decode cX5_chooseWay 105 = .ok (.goto (-46), 3) := by decide +kernel
theorem dX5_chooseWay_108 : decode cX5_chooseWay 108 = .ok (.iinc 4 1, 3) := by decide +kernel
theorem dX5_chooseWay_111 : decode cX5_chooseWay 111 = .ok (.goto (-64), 3) := by decide +kernel
theorem dX5_chooseWay_114 : decode cX5_chooseWay 114 = .ok (.iconst 0, 1) := by decide +kernel
theorem dX5_chooseWay_115 : decode cX5_chooseWay 115 = .ok (.ireturn, 1) := by decide +kernel
theorem dX5_take_0 : decode cX5_take 0 = .ok (.aload_n 2, 1) := by decide +kernel
theorem dX5_take_1 : decode cX5_take 1 = .ok (.getfield 236, 3) := by decide +kernel
theorem dX5_take_4 : decode cX5_take 4 = .ok (.iconst (-1), 1) := by decide +kernel
theorem dX5_take_5 : decode cX5_take 5 = .ok (.if_icmp .eq 28, 3) := by decide +kernel
theorem dX5_take_8 : decode cX5_take 8 = .ok (.aload_n 0, 1) := by decide +kernel
theorem dX5_take_9 : decode cX5_take 9 = .ok (.aload_n 2, 1) := by decide +kernel
theorem dX5_take_10 : decode cX5_take 10 = .ok (.getfield 236, 3) := by decide +kernel
theorem dX5_take_13 : decode cX5_take 13 = .ok (.aload_n 2, 1) := by decide +kernel
theorem dX5_take_14 : decode cX5_take 14 = .ok (.getfield 239, 3) := by decide +kernel
theorem dX5_take_17 : decode cX5_take 17 = .ok (.aload_n 0, 1) := by decide +kernel
theorem dX5_take_18 : decode cX5_take 18 = .ok (.getfield 9, 3) := by decide +kernel
theorem dX5_take_21 : decode cX5_take 21 = .ok (.iconst 1, 1) := by decide +kernel
theorem dX5_take_22 : decode cX5_take 22 = .ok (.iaload, 1) := by decide +kernel
theorem dX5_take_23 : decode cX5_take 23 = .ok (.isub, 1) := by decide +kernel
theorem dX5_take_24 : decode cX5_take 24 = .ok (.iconst 1, 1) := by decide +kernel
theorem dX5_take_25 : decode cX5_take 25 = .ok (.aload_n 2, 1) := by decide +kernel
theorem dX5_take_26 : decode cX5_take 26 = .ok (.getfield 242, 3) := by decide +kernel
theorem dX5_take_29 : decode cX5_take 29 = .ok (.ishl, 1) := by decide +kernel
theorem dX5_take_30 : decode cX5_take 30 = .ok (.invokevirtual 243, 3) := by decide +kernel
theorem dX5_take_33 : decode cX5_take 33 = .ok (.aload_n 0, 1) := by decide +kernel
theorem dX5_take_34 : decode cX5_take 34 = .ok (.iload_n 1, 1) := by decide +kernel
theorem dX5_take_35 : decode cX5_take 35 = .ok (.aload_n 2, 1) := by decide +kernel
theorem dX5_take_36 : decode cX5_take 36 = .ok (.getfield 242, 3) := by decide +kernel
theorem dX5_take_39 : decode cX5_take 39 = .ok (.aload_n 2, 1) := by decide +kernel
theorem dX5_take_40 : decode cX5_take 40 = .ok (.getfield 239, 3) := by decide +kernel
theorem dX5_take_43 : decode cX5_take 43 = .ok (.invokevirtual 246, 3) := by decide +kernel
theorem dX5_take_46 : decode cX5_take 46 = .ok (.return_, 1) := by decide +kernel
theorem dX5_lineUp_0 : decode cX5_lineUp 0 = .ok (.iconst 0, 1) := by decide +kernel
theorem dX5_lineUp_1 : decode cX5_lineUp 1 = .ok (.istore_n 2, 1) := by decide +kernel
theorem dX5_lineUp_2 : decode cX5_lineUp 2 = .ok (.iconst 0, 1) := by decide +kernel
theorem dX5_lineUp_3 : decode cX5_lineUp 3 = .ok (.istore_n 3, 1) := by decide +kernel
theorem dX5_lineUp_4 : decode cX5_lineUp 4 = .ok (.iload_n 3, 1) := by decide +kernel
theorem dX5_lineUp_5 : decode cX5_lineUp 5 = .ok (.aload_n 0, 1) := by decide +kernel
theorem dX5_lineUp_6 : decode cX5_lineUp 6 = .ok (.getfield 55, 3) := by decide +kernel
theorem dX5_lineUp_9 : decode cX5_lineUp 9 = .ok (.if_icmp .ge 82, 3) := by decide +kernel
theorem dX5_lineUp_12 : decode cX5_lineUp 12 = .ok (.iload_n 2, 1) := by decide +kernel
theorem dX5_lineUp_13 : decode cX5_lineUp 13 = .ok (.aload_n 1, 1) := by decide +kernel
theorem dX5_lineUp_14 : decode cX5_lineUp 14 = .ok (.arraylength, 1) := by decide +kernel
theorem dX5_lineUp_15 : decode cX5_lineUp 15 = .ok (.if_icmp .ge 76, 3) := by decide +kernel
theorem dX5_lineUp_18 : decode cX5_lineUp 18 = .ok (.aload_n 0, 1) := by decide +kernel
theorem dX5_lineUp_19 : decode cX5_lineUp 19 = .ok (.getfield 20, 3) := by decide +kernel
theorem dX5_lineUp_22 : decode cX5_lineUp 22 = .ok (.iload_n 3, 1) := by decide +kernel
theorem dX5_lineUp_23 : decode cX5_lineUp 23 = .ok (.aaload, 1) := by decide +kernel
theorem dX5_lineUp_24 : decode cX5_lineUp 24 = .ok (.getfield 128, 3) := by decide +kernel
theorem dX5_lineUp_27 : decode cX5_lineUp 27 = .ok (.ifCond .ne 58, 3) := by decide +kernel
theorem dX5_lineUp_30 : decode cX5_lineUp 30 = .ok (.iload_n 2, 1) := by decide +kernel
theorem dX5_lineUp_31 : decode cX5_lineUp 31 = .ok (.istore 4, 2) := by decide +kernel
theorem dX5_lineUp_33 : decode cX5_lineUp 33 = .ok (.iload 4, 2) := by decide +kernel
theorem dX5_lineUp_35 : decode cX5_lineUp 35 = .ok (.ifCond .le 42, 3) := by decide +kernel
theorem dX5_lineUp_38 : decode cX5_lineUp 38 = .ok (.aload_n 0, 1) := by decide +kernel
theorem dX5_lineUp_39 : decode cX5_lineUp 39 = .ok (.getfield 20, 3) := by decide +kernel
theorem dX5_lineUp_42 : decode cX5_lineUp 42 = .ok (.iload_n 3, 1) := by decide +kernel
theorem dX5_lineUp_43 : decode cX5_lineUp 43 = .ok (.aaload, 1) := by decide +kernel
theorem dX5_lineUp_44 : decode cX5_lineUp 44 = .ok (.aload_n 0, 1) := by decide +kernel
theorem dX5_lineUp_45 : decode cX5_lineUp 45 = .ok (.getfield 20, 3) := by decide +kernel
theorem dX5_lineUp_48 : decode cX5_lineUp 48 = .ok (.aload_n 1, 1) := by decide +kernel
theorem dX5_lineUp_49 : decode cX5_lineUp 49 = .ok (.iload 4, 2) := by decide +kernel
theorem dX5_lineUp_51 : decode cX5_lineUp 51 = .ok (.iconst 1, 1) := by decide +kernel
theorem dX5_lineUp_52 : decode cX5_lineUp 52 = .ok (.isub, 1) := by decide +kernel
theorem dX5_lineUp_53 : decode cX5_lineUp 53 = .ok (.iaload, 1) := by decide +kernel
theorem dX5_lineUp_54 : decode cX5_lineUp 54 = .ok (.aaload, 1) := by decide +kernel
theorem dX5_lineUp_55 : decode cX5_lineUp 55 = .ok (.invokevirtual 249, 3) := by decide +kernel
theorem dX5_lineUp_58 : decode cX5_lineUp 58 = .ok (.ifCond .eq 19, 3) := by decide +kernel
theorem dX5_lineUp_61 : decode cX5_lineUp 61 = .ok (.aload_n 1, 1) := by decide +kernel
theorem dX5_lineUp_62 : decode cX5_lineUp 62 = .ok (.iload 4, 2) := by decide +kernel
theorem dX5_lineUp_64 : decode cX5_lineUp 64 = .ok (.aload_n 1, 1) := by decide +kernel
theorem dX5_lineUp_65 : decode cX5_lineUp 65 = .ok (.iload 4, 2) := by decide +kernel
theorem dX5_lineUp_67 : decode cX5_lineUp 67 = .ok (.iconst 1, 1) := by decide +kernel
theorem dX5_lineUp_68 : decode cX5_lineUp 68 = .ok (.isub, 1) := by decide +kernel
theorem dX5_lineUp_69 : decode cX5_lineUp 69 = .ok (.iaload, 1) := by decide +kernel
theorem dX5_lineUp_70 : decode cX5_lineUp 70 = .ok (.iastore, 1) := by decide +kernel
theorem dX5_lineUp_71 : decode cX5_lineUp 71 = .ok (.iinc 4 (-1), 3) := by decide +kernel
theorem dX5_lineUp_74 : decode cX5_lineUp 74 = .ok (.goto (-41), 3) := by decide +kernel
theorem dX5_lineUp_77 : decode cX5_lineUp 77 = .ok (.aload_n 1, 1) := by decide +kernel
theorem dX5_lineUp_78 : decode cX5_lineUp 78 = .ok (.iload 4, 2) := by decide +kernel
theorem dX5_lineUp_80 : decode cX5_lineUp 80 = .ok (.iload_n 3, 1) := by decide +kernel
theorem dX5_lineUp_81 : decode cX5_lineUp 81 = .ok (.iastore, 1) := by decide +kernel
theorem dX5_lineUp_82 : decode cX5_lineUp 82 = .ok (.iinc 2 1, 3) := by decide +kernel
theorem dX5_lineUp_85 : decode cX5_lineUp 85 = .ok (.iinc 3 1, 3) := by decide +kernel
theorem dX5_lineUp_88 : decode cX5_lineUp 88 = .ok (.goto (-84), 3) := by decide +kernel
theorem dX5_lineUp_91 : decode cX5_lineUp 91 = .ok (.iload_n 2, 1) := by decide +kernel
theorem dX5_lineUp_92 : decode cX5_lineUp 92 = .ok (.ireturn, 1) := by decide +kernel
theorem dX5_advance_0 : decode cX5_advance 0 = .ok (.aload_n 0, 1) := by decide +kernel
theorem dX5_advance_1 : decode cX5_advance 1 = .ok (.dup, 1) := by decide +kernel
theorem dX5_advance_2 : decode cX5_advance 2 = .ok (.getfield 51, 3) := by decide +kernel
theorem dX5_advance_5 : decode cX5_advance 5 = .ok (.iload_n 1, 1) := by decide +kernel
theorem dX5_advance_6 : decode cX5_advance 6 = .ok (.iadd, 1) := by decide +kernel
theorem dX5_advance_7 : decode cX5_advance 7 = .ok (.putfield 51, 3) := by decide +kernel
theorem dX5_advance_10 : decode cX5_advance 10 = .ok (.iconst 0, 1) := by decide +kernel
theorem dX5_advance_11 : decode cX5_advance 11 = .ok (.istore_n 2, 1) := by decide +kernel
theorem dX5_advance_12 : decode cX5_advance 12 = .ok (.iload_n 2, 1) := by decide +kernel
theorem dX5_advance_13 : decode cX5_advance 13 = .ok (.aload_n 0, 1) := by decide +kernel
theorem dX5_advance_14 : decode cX5_advance 14 = .ok (.getfield 55, 3) := by decide +kernel
theorem dX5_advance_17 : decode cX5_advance 17 = .ok (.if_icmp .ge 23, 3) := by decide +kernel
theorem dX5_advance_20 : decode cX5_advance 20 = .ok (.aload_n 0, 1) := by decide +kernel
theorem dX5_advance_21 : decode cX5_advance 21 = .ok (.invokevirtual 253, 3) := by decide +kernel
theorem dX5_advance_24 : decode cX5_advance 24 = .ok (.astore_n 3, 1) := by decide +kernel
theorem dX5_advance_25 : decode cX5_advance 25 = .ok (.aload_n 3, 1) := by decide +kernel
theorem dX5_advance_26 : decode cX5_advance 26 = .ok (.ifnull 8, 3) := by decide +kernel
theorem dX5_advance_29 : decode cX5_advance 29 = .ok (.aload_n 0, 1) := by decide +kernel
theorem dX5_advance_30 : decode cX5_advance 30 = .ok (.aload_n 3, 1) := by decide +kernel
theorem dX5_advance_31 : decode cX5_advance 31 = .ok (.invokevirtual 257, 3) := by decide +kernel
theorem dX5_advance_34 : decode cX5_advance 34 = .ok (.iinc 2 1, 3) := by decide +kernel
theorem dX5_advance_37 : decode cX5_advance 37 = .ok (.goto (-25), 3) := by decide +kernel
theorem dX5_advance_40 : decode cX5_advance 40 = .ok (.iconst 0, 1) := by decide +kernel
theorem dX5_advance_41 : decode cX5_advance 41 = .ok (.istore_n 2, 1) := by decide +kernel
theorem dX5_advance_42 : decode cX5_advance 42 = .ok (.iconst 0, 1) := by decide +kernel
theorem dX5_advance_43 : decode cX5_advance 43 = .ok (.istore_n 3, 1) := by decide +kernel
theorem dX5_advance_44 : decode cX5_advance 44 = .ok (.iload_n 3, 1) := by decide +kernel
theorem dX5_advance_45 : decode cX5_advance 45 = .ok (.aload_n 0, 1) := by decide +kernel
theorem dX5_advance_46 : decode cX5_advance 46 = .ok (.getfield 55, 3) := by decide +kernel
theorem dX5_advance_49 : decode cX5_advance 49 = .ok (.if_icmp .ge 50, 3) := by decide +kernel
theorem dX5_advance_52 : decode cX5_advance 52 = .ok (.aload_n 0, 1) := by decide +kernel
theorem dX5_advance_53 : decode cX5_advance 53 = .ok (.getfield 20, 3) := by decide +kernel
theorem dX5_advance_56 : decode cX5_advance 56 = .ok (.iload_n 3, 1) := by decide +kernel
theorem dX5_advance_57 : decode cX5_advance 57 = .ok (.aaload, 1) := by decide +kernel
theorem dX5_advance_58 : decode cX5_advance 58 = .ok (.getfield 128, 3) := by decide +kernel
theorem dX5_advance_61 : decode cX5_advance 61 = .ok (.ifCond .ne 32, 3) := by decide +kernel
theorem dX5_advance_64 : decode cX5_advance 64 = .ok (.aload_n 0, 1) := by decide +kernel
theorem dX5_advance_65 : decode cX5_advance 65 = .ok (.getfield 20, 3) := by decide +kernel
theorem dX5_advance_68 : decode cX5_advance 68 = .ok (.iload_n 3, 1) := by decide +kernel
theorem dX5_advance_69 : decode cX5_advance 69 = .ok (.aaload, 1) := by decide +kernel
theorem dX5_advance_70 : decode cX5_advance 70 = .ok (.getfield 105, 3) := by decide +kernel
theorem dX5_advance_73 : decode cX5_advance 73 = .ok (.aload_n 0, 1) := by decide +kernel
theorem dX5_advance_74 : decode cX5_advance 74 = .ok (.getfield 51, 3) := by decide +kernel
theorem dX5_advance_77 : decode cX5_advance 77 = .ok (.if_icmp .ge 16, 3) := by decide +kernel
theorem dX5_advance_80 : decode cX5_advance 80 = .ok (.aload_n 0, 1) := by decide +kernel
theorem dX5_advance_81 : decode cX5_advance 81 = .ok (.getfield 20, 3) := by decide +kernel
theorem dX5_advance_84 : decode cX5_advance 84 = .ok (.iload_n 3, 1) := by decide +kernel
theorem dX5_advance_85 : decode cX5_advance 85 = .ok (.aaload, 1) := by decide +kernel
theorem dX5_advance_86 : decode cX5_advance 86 = .ok (.iconst 3, 1) := by decide +kernel
theorem dX5_advance_87 : decode cX5_advance 87 = .ok (.putfield 128, 3) := by decide +kernel
theorem dX5_advance_90 : decode cX5_advance 90 = .ok (.iinc 2 1, 3) := by decide +kernel
theorem dX5_advance_93 : decode cX5_advance 93 = .ok (.iinc 3 1, 3) := by decide +kernel
theorem dX5_advance_96 : decode cX5_advance 96 = .ok (.goto (-52), 3) := by decide +kernel
theorem dX5_advance_99 : decode cX5_advance 99 = .ok (.iload_n 2, 1) := by decide +kernel
theorem dX5_advance_100 : decode cX5_advance 100 = .ok (.ireturn, 1) := by decide +kernel
theorem dX5_firstEnded_0 : decode cX5_firstEnded 0 = .ok (.aconst_null, 1) := by decide +kernel
theorem dX5_firstEnded_1 : decode cX5_firstEnded 1 = .ok (.astore_n 1, 1) := by decide +kernel
theorem dX5_firstEnded_2 : decode cX5_firstEnded 2 = .ok (.iconst 0, 1) := by decide +kernel
theorem dX5_firstEnded_3 : decode cX5_firstEnded 3 = .ok (.istore_n 2, 1) := by decide +kernel
theorem dX5_firstEnded_4 : decode cX5_firstEnded 4 = .ok (.iload_n 2, 1) := by decide +kernel
theorem dX5_firstEnded_5 : decode cX5_firstEnded 5 = .ok (.aload_n 0, 1) := by decide +kernel
theorem dX5_firstEnded_6 : decode cX5_firstEnded 6 = .ok (.getfield 55, 3) := by decide +kernel
theorem dX5_firstEnded_9 : decode cX5_firstEnded 9 = .ok (.if_icmp .ge 65, 3) := by decide +kernel
theorem dX5_firstEnded_12 : decode cX5_firstEnded 12 = .ok (.aload_n 0, 1) := by decide +kernel
theorem dX5_firstEnded_13 : decode cX5_firstEnded 13 = .ok (.getfield 20, 3) := by decide +kernel
theorem dX5_firstEnded_16 : decode cX5_firstEnded 16 = .ok (.iload_n 2, 1) := by decide +kernel
theorem dX5_firstEnded_17 : decode cX5_firstEnded 17 = .ok (.aaload, 1) := by decide +kernel
theorem dX5_firstEnded_18 : decode cX5_firstEnded 18 = .ok (.getfield 128, 3) := by decide +kernel
theorem dX5_firstEnded_21 : decode cX5_firstEnded 21 = .ok (.iconst 1, 1) := by decide +kernel
theorem dX5_firstEnded_22 : decode cX5_firstEnded 22 = .ok (.if_icmp .ne 46, 3) := by decide +kernel
theorem dX5_firstEnded_25 : decode cX5_firstEnded 25 = .ok (.aload_n 0, 1) := by decide +kernel
theorem dX5_firstEnded_26 : decode cX5_firstEnded 26 = .ok (.getfield 20, 3) := by decide +kernel
theorem dX5_firstEnded_29 : decode cX5_firstEnded 29 = .ok (.iload_n 2, 1) := by decide +kernel
theorem dX5_firstEnded_30 : decode cX5_firstEnded 30 = .ok (.aaload, 1) := by decide +kernel
theorem dX5_firstEnded_31 : decode cX5_firstEnded 31 = .ok (.getfield 161, 3) := by decide +kernel
theorem dX5_firstEnded_34 : decode cX5_firstEnded 34 = .ok (.aload_n 0, 1) := by decide +kernel
theorem dX5_firstEnded_35 : decode cX5_firstEnded 35 = .ok (.getfield 51, 3) := by decide +kernel
theorem dX5_firstEnded_38 : decode cX5_firstEnded 38 = .ok (.if_icmp .gt 30, 3) := by decide +kernel
theorem dX5_firstEnded_41 : decode cX5_firstEnded 41 = .ok (.aload_n 1, 1) := by decide +kernel
theorem dX5_firstEnded_42 : decode cX5_firstEnded 42 = .ok (.ifnull 19, 3) := by decide +kernel
theorem dX5_firstEnded_45 : decode cX5_firstEnded 45 = .ok (.aload_n 0, 1) := by decide +kernel
theorem dX5_firstEnded_46 : decode cX5_firstEnded 46 = .ok (.getfield 20, 3) := by decide +kernel
theorem dX5_firstEnded_49 : decode cX5_firstEnded 49 = .ok (.iload_n 2, 1) := by decide +kernel
theorem dX5_firstEnded_50 : decode cX5_firstEnded 50 = .ok (.aaload, 1) := by decide +kernel
theorem dX5_firstEnded_51 : decode cX5_firstEnded 51 = .ok (.getfield 161, 3) := by decide +kernel
theorem dX5_firstEnded_54 : decode cX5_firstEnded 54 = .ok (.aload_n 1, 1) := by decide +kernel
theorem dX5_firstEnded_55 : decode cX5_firstEnded 55 = .ok (.getfield 161, 3) := by decide +kernel
theorem dX5_firstEnded_58 : decode cX5_firstEnded 58 = .ok (.if_icmp .ge 10, 3) := by decide +kernel
theorem dX5_firstEnded_61 : decode cX5_firstEnded 61 = .ok (.aload_n 0, 1) := by decide +kernel
theorem dX5_firstEnded_62 : decode cX5_firstEnded 62 = .ok (.getfield 20, 3) := by decide +kernel
theorem dX5_firstEnded_65 : decode cX5_firstEnded 65 = .ok (.iload_n 2, 1) := by decide +kernel
theorem dX5_firstEnded_66 : decode cX5_firstEnded 66 = .ok (.aaload, 1) := by decide +kernel
theorem dX5_firstEnded_67 : decode cX5_firstEnded 67 = .ok (.astore_n 1, 1) := by decide +kernel
theorem dX5_firstEnded_68 : decode cX5_firstEnded 68 = .ok (.iinc 2 1, 3) := by decide +kernel
theorem dX5_firstEnded_71 : decode cX5_firstEnded 71 = .ok (.goto (-67), 3) := by decide +kernel
theorem dX5_firstEnded_74 : decode cX5_firstEnded 74 = .ok (.aload_n 1, 1) := by decide +kernel
theorem dX5_firstEnded_75 : decode cX5_firstEnded 75 = .ok (.areturn, 1) := by decide +kernel
theorem dX5_finish_0 : decode cX5_finish 0 = .ok (.aload_n 1, 1) := by decide +kernel
theorem dX5_finish_1 : decode cX5_finish 1 = .ok (.iconst 2, 1) := by decide +kernel
theorem dX5_finish_2 : decode cX5_finish 2 = .ok (.putfield 128, 3) := by decide +kernel
theorem dX5_finish_5 : decode cX5_finish 5 = .ok (.aload_n 0, 1) := by decide +kernel
theorem dX5_finish_6 : decode cX5_finish 6 = .ok (.aload_n 1, 1) := by decide +kernel
theorem dX5_finish_7 : decode cX5_finish 7 = .ok (.getfield 171, 3) := by decide +kernel
theorem dX5_finish_10 : decode cX5_finish 10 = .ok (.invokevirtual 154, 3) := by decide +kernel
theorem dX5_finish_13 : decode cX5_finish 13 = .ok (.ifCond .eq 25, 3) := by decide +kernel
theorem dX5_finish_16 : decode cX5_finish 16 = .ok (.aload_n 0, 1) := by decide +kernel
theorem dX5_finish_17 : decode cX5_finish 17 = .ok (.getfield 26, 3) := by decide +kernel
theorem dX5_finish_20 : decode cX5_finish 20 = .ok (.aload_n 1, 1) := by decide +kernel
theorem dX5_finish_21 : decode cX5_finish 21 = .ok (.getfield 171, 3) := by decide +kernel
theorem dX5_finish_24 : decode cX5_finish 24 = .ok (.aaload, 1) := by decide +kernel
theorem dX5_finish_25 : decode cX5_finish 25 = .ok (.aload_n 1, 1) := by decide +kernel
theorem dX5_finish_26 : decode cX5_finish 26 = .ok (.getfield 134, 3) := by decide +kernel
theorem dX5_finish_29 : decode cX5_finish 29 = .ok (.aload_n 0, 1) := by decide +kernel
theorem dX5_finish_30 : decode cX5_finish 30 = .ok (.getfield 9, 3) := by decide +kernel
theorem dX5_finish_33 : decode cX5_finish 33 = .ok (.iconst 2, 1) := by decide +kernel
theorem dX5_finish_34 : decode cX5_finish 34 = .ok (.iaload, 1) := by decide +kernel
theorem dX5_finish_35 : decode cX5_finish 35 = .ok (.invokevirtual 260, 3) := by decide +kernel
theorem dX5_finish_38 : decode cX5_finish 38 = .ok (.return_, 1) := by decide +kernel
theorem dX5_ordersIn_0 : decode cX5_ordersIn 0 = .ok (.iconst 0, 1) := by decide +kernel
theorem dX5_ordersIn_1 : decode cX5_ordersIn 1 = .ok (.istore_n 2, 1) := by decide +kernel
theorem dX5_ordersIn_2 : decode cX5_ordersIn 2 = .ok (.iconst 0, 1) := by decide +kernel
theorem dX5_ordersIn_3 : decode cX5_ordersIn 3 = .ok (.istore_n 3, 1) := by decide +kernel
theorem dX5_ordersIn_4 : decode cX5_ordersIn 4 = .ok (.iload_n 3, 1) := by decide +kernel
theorem dX5_ordersIn_5 : decode cX5_ordersIn 5 = .ok (.aload_n 0, 1) := by decide +kernel
theorem dX5_ordersIn_6 : decode cX5_ordersIn 6 = .ok (.getfield 55, 3) := by decide +kernel
theorem dX5_ordersIn_9 : decode cX5_ordersIn 9 = .ok (.if_icmp .ge 25, 3) := by decide +kernel
theorem dX5_ordersIn_12 : decode cX5_ordersIn 12 = .ok (.aload_n 0, 1) := by decide +kernel
theorem dX5_ordersIn_13 : decode cX5_ordersIn 13 = .ok (.getfield 20, 3) := by decide +kernel
theorem dX5_ordersIn_16 : decode cX5_ordersIn 16 = .ok (.iload_n 3, 1) := by decide +kernel
theorem dX5_ordersIn_17 : decode cX5_ordersIn 17 = .ok (.aaload, 1) := by decide +kernel
theorem dX5_ordersIn_18 : decode cX5_ordersIn 18 = .ok (.getfield 128, 3) := by decide +kernel
theorem dX5_ordersIn_21 : decode cX5_ordersIn 21 = .ok (.iload_n 1, 1) := by decide +kernel
theorem dX5_ordersIn_22 : decode cX5_ordersIn 22 = .ok (.if_icmp .ne 6, 3) := by decide +kernel
theorem dX5_ordersIn_25 : decode cX5_ordersIn 25 = .ok (.iinc 2 1, 3) := by decide +kernel
theorem dX5_ordersIn_28 : decode cX5_ordersIn 28 = .ok (.iinc 3 1, 3) := by decide +kernel
theorem dX5_ordersIn_31 : decode cX5_ordersIn 31 = .ok (.goto (-27), 3) := by decide +kernel
theorem dX5_ordersIn_34 : decode cX5_ordersIn 34 = .ok (.iload_n 2, 1) := by decide +kernel
theorem dX5_ordersIn_35 : decode cX5_ordersIn 35 = .ok (.ireturn, 1) := by decide +kernel
theorem dX5_tripsDone_0 : decode cX5_tripsDone 0 = .ok (.iconst 0, 1) := by decide +kernel
theorem dX5_tripsDone_1 : decode cX5_tripsDone 1 = .ok (.istore_n 2, 1) := by decide +kernel
theorem dX5_tripsDone_2 : decode cX5_tripsDone 2 = .ok (.iconst 0, 1) := by decide +kernel
theorem dX5_tripsDone_3 : decode cX5_tripsDone 3 = .ok (.istore_n 3, 1) := by decide +kernel
theorem dX5_tripsDone_4 : decode cX5_tripsDone 4 = .ok (.iload_n 3, 1) := by decide +kernel
theorem dX5_tripsDone_5 : decode cX5_tripsDone 5 = .ok (.aload_n 0, 1) := by decide +kernel
theorem dX5_tripsDone_6 : decode cX5_tripsDone 6 = .ok (.getfield 55, 3) := by decide +kernel
theorem dX5_tripsDone_9 : decode cX5_tripsDone 9 = .ok (.if_icmp .ge 38, 3) := by decide +kernel
theorem dX5_tripsDone_12 : decode cX5_tripsDone 12 = .ok (.aload_n 0, 1) := by decide +kernel
theorem dX5_tripsDone_13 : decode cX5_tripsDone 13 = .ok (.getfield 20, 3) := by decide +kernel
theorem dX5_tripsDone_16 : decode cX5_tripsDone 16 = .ok (.iload_n 3, 1) := by decide +kernel
theorem dX5_tripsDone_17 : decode cX5_tripsDone 17 = .ok (.aaload, 1) := by decide +kernel
theorem dX5_tripsDone_18 : decode cX5_tripsDone 18 = .ok (.getfield 128, 3) := by decide +kernel
theorem dX5_tripsDone_21 : decode cX5_tripsDone 21 = .ok (.iconst 2, 1) := by decide +kernel
theorem dX5_tripsDone_22 : decode cX5_tripsDone 22 = .ok (.if_icmp .ne 19, 3) := by decide +kernel
theorem dX5_tripsDone_25 : decode cX5_tripsDone 25 = .ok (.aload_n 0, 1) := by decide +kernel
theorem dX5_tripsDone_26 : decode cX5_tripsDone 26 = .ok (.getfield 20, 3) := by decide +kernel
theorem dX5_tripsDone_29 : decode cX5_tripsDone 29 = .ok (.iload_n 3, 1) := by decide +kernel
theorem dX5_tripsDone_30 : decode cX5_tripsDone 30 = .ok (.aaload, 1) := by decide +kernel
theorem dX5_tripsDone_31 : decode cX5_tripsDone 31 = .ok (.getfield 171, 3) := by decide +kernel
theorem dX5_tripsDone_34 : decode cX5_tripsDone 34 = .ok (.iload_n 1, 1) := by decide +kernel
theorem dX5_tripsDone_35 : decode cX5_tripsDone 35 = .ok (.if_icmp .ne 6, 3) := by decide +kernel
theorem dX5_tripsDone_38 : decode cX5_tripsDone 38 = .ok (.iinc 2 1, 3) := by decide +kernel
theorem dX5_tripsDone_41 : decode cX5_tripsDone 41 = .ok (.iinc 3 1, 3) := by decide +kernel
theorem dX5_tripsDone_44 : decode cX5_tripsDone 44 = .ok (.goto (-40), 3) := by decide +kernel
theorem dX5_tripsDone_47 : decode cX5_tripsDone 47 = .ok (.iload_n 2, 1) := by decide +kernel
theorem dX5_tripsDone_48 : decode cX5_tripsDone 48 = .ok (.ireturn, 1) := by decide +kernel
theorem dX5_allRuns_0 : decode cX5_allRuns 0 = .ok (.iconst 0, 1) := by decide +kernel
theorem dX5_allRuns_1 : decode cX5_allRuns 1 = .ok (.istore_n 1, 1) := by decide +kernel
theorem dX5_allRuns_2 : decode cX5_allRuns 2 = .ok (.iconst 0, 1) := by decide +kernel
theorem dX5_allRuns_3 : decode cX5_allRuns 3 = .ok (.istore_n 2, 1) := by decide +kernel
theorem dX5_allRuns_4 : decode cX5_allRuns 4 = .ok (.iload_n 2, 1) := by decide +kernel
theorem dX5_allRuns_5 : decode cX5_allRuns 5 = .ok (.aload_n 0, 1) := by decide +kernel
theorem dX5_allRuns_6 : decode cX5_allRuns 6 = .ok (.getfield 61, 3) := by decide +kernel
theorem dX5_allRuns_9 : decode cX5_allRuns 9 = .ok (.if_icmp .ge 21, 3) := by decide +kernel
theorem dX5_allRuns_12 : decode cX5_allRuns 12 = .ok (.iload_n 1, 1) := by decide +kernel
theorem dX5_allRuns_13 : decode cX5_allRuns 13 = .ok (.aload_n 0, 1) := by decide +kernel
theorem dX5_allRuns_14 : decode cX5_allRuns 14 = .ok (.getfield 32, 3) := by decide +kernel
theorem dX5_allRuns_17 : decode cX5_allRuns 17 = .ok (.iload_n 2, 1) := by decide +kernel
theorem dX5_allRuns_18 : decode cX5_allRuns 18 = .ok (.aaload, 1) := by decide +kernel
theorem dX5_allRuns_19 : decode cX5_allRuns 19 = .ok (.getfield 207, 3) := by decide +kernel
theorem dX5_allRuns_22 : decode cX5_allRuns 22 = .ok (.iadd, 1) := by decide +kernel
theorem dX5_allRuns_23 : decode cX5_allRuns 23 = .ok (.istore_n 1, 1) := by decide +kernel
theorem dX5_allRuns_24 : decode cX5_allRuns 24 = .ok (.iinc 2 1, 3) := by decide +kernel
theorem dX5_allRuns_27 : decode cX5_allRuns 27 = .ok (.goto (-23), 3) := by decide +kernel
theorem dX5_allRuns_30 : decode cX5_allRuns 30 = .ok (.iload_n 1, 1) := by decide +kernel
theorem dX5_allRuns_31 : decode cX5_allRuns 31 = .ok (.ireturn, 1) := by decide +kernel
theorem dX5_allRides_0 : decode cX5_allRides 0 = .ok (.iconst 0, 1) := by decide +kernel
theorem dX5_allRides_1 : decode cX5_allRides 1 = .ok (.istore_n 1, 1) := by decide +kernel
theorem dX5_allRides_2 : decode cX5_allRides 2 = .ok (.iconst 0, 1) := by decide +kernel
theorem dX5_allRides_3 : decode cX5_allRides 3 = .ok (.istore_n 2, 1) := by decide +kernel
theorem dX5_allRides_4 : decode cX5_allRides 4 = .ok (.iload_n 2, 1) := by decide +kernel
theorem dX5_allRides_5 : decode cX5_allRides 5 = .ok (.aload_n 0, 1) := by decide +kernel
theorem dX5_allRides_6 : decode cX5_allRides 6 = .ok (.getfield 61, 3) := by decide +kernel
theorem dX5_allRides_9 : decode cX5_allRides 9 = .ok (.if_icmp .ge 21, 3) := by decide +kernel
theorem dX5_allRides_12 : decode cX5_allRides 12 = .ok (.iload_n 1, 1) := by decide +kernel
theorem dX5_allRides_13 : decode cX5_allRides 13 = .ok (.aload_n 0, 1) := by decide +kernel
theorem dX5_allRides_14 : decode cX5_allRides 14 = .ok (.getfield 32, 3) := by decide +kernel
theorem dX5_allRides_17 : decode cX5_allRides 17 = .ok (.iload_n 2, 1) := by decide +kernel
theorem dX5_allRides_18 : decode cX5_allRides 18 = .ok (.aaload, 1) := by decide +kernel
theorem dX5_allRides_19 : decode cX5_allRides 19 = .ok (.getfield 204, 3) := by decide +kernel
theorem dX5_allRides_22 : decode cX5_allRides 22 = .ok (.iadd, 1) := by decide +kernel
theorem dX5_allRides_23 : decode cX5_allRides 23 = .ok (.istore_n 1, 1) := by decide +kernel
theorem dX5_allRides_24 : decode cX5_allRides 24 = .ok (.iinc 2 1, 3) := by decide +kernel
theorem dX5_allRides_27 : decode cX5_allRides 27 = .ok (.goto (-23), 3) := by decide +kernel
theorem dX5_allRides_30 : decode cX5_allRides 30 = .ok (.iload_n 1, 1) := by decide +kernel
theorem dX5_allRides_31 : decode cX5_allRides 31 = .ok (.ireturn, 1) := by decide +kernel
theorem dX5_allTripHours_0 : decode cX5_allTripHours 0 = .ok (.iconst 0, 1) := by decide +kernel
theorem dX5_allTripHours_1 : decode cX5_allTripHours 1 = .ok (.istore_n 1, 1) := by decide +kernel
theorem dX5_allTripHours_2 : decode cX5_allTripHours 2 = .ok (.iconst 0, 1) := by decide +kernel
theorem dX5_allTripHours_3 : decode cX5_allTripHours 3 = .ok (.istore_n 2, 1) := by decide +kernel
theorem dX5_allTripHours_4 : decode cX5_allTripHours 4 = .ok (.iload_n 2, 1) := by decide +kernel
theorem dX5_allTripHours_5 : decode cX5_allTripHours 5 = .ok (.aload_n 0, 1) := by decide +kernel
theorem dX5_allTripHours_6 : decode cX5_allTripHours 6 = .ok (.getfield 55, 3) := by decide +kernel
theorem dX5_allTripHours_9 : decode cX5_allTripHours 9 = .ok (.if_icmp .ge 33, 3) := by decide +kernel
theorem dX5_allTripHours_12 : decode cX5_allTripHours 12 = .ok (.aload_n 0, 1) := by decide +kernel
theorem dX5_allTripHours_13 : decode cX5_allTripHours 13 = .ok (.getfield 20, 3) := by decide +kernel
theorem dX5_allTripHours_16 : decode cX5_allTripHours 16 = .ok (.iload_n 2, 1) := by decide +kernel
theorem dX5_allTripHours_17 : decode cX5_allTripHours 17 = .ok (.aaload, 1) := by decide +kernel
theorem dX5_allTripHours_18 : decode cX5_allTripHours 18 = .ok (.invokevirtual 263, 3) := by decide +kernel
theorem dX5_allTripHours_21 : decode cX5_allTripHours 21 = .ok (.ifCond .eq 15, 3) := by decide +kernel
theorem dX5_allTripHours_24 : decode cX5_allTripHours 24 = .ok (.iload_n 1, 1) := by decide +kernel
theorem dX5_allTripHours_25 : decode cX5_allTripHours 25 = .ok (.aload_n 0, 1) := by decide +kernel
theorem dX5_allTripHours_26 : decode cX5_allTripHours 26 = .ok (.getfield 20, 3) := by decide +kernel
theorem dX5_allTripHours_29 : decode cX5_allTripHours 29 = .ok (.iload_n 2, 1) := by decide +kernel
theorem dX5_allTripHours_30 : decode cX5_allTripHours 30 = .ok (.aaload, 1) := by decide +kernel
theorem dX5_allTripHours_31 : decode cX5_allTripHours 31 = .ok (.invokevirtual 88, 3) := by decide +kernel
theorem dX5_allTripHours_34 : decode cX5_allTripHours 34 = .ok (.iadd, 1) := by decide +kernel
theorem dX5_allTripHours_35 : decode cX5_allTripHours 35 = .ok (.istore_n 1, 1) := by decide +kernel
theorem dX5_allTripHours_36 : decode cX5_allTripHours 36 = .ok (.iinc 2 1, 3) := by decide +kernel
theorem dX5_allTripHours_39 : decode cX5_allTripHours 39 = .ok (.goto (-35), 3) := by decide +kernel
theorem dX5_allTripHours_42 : decode cX5_allTripHours 42 = .ok (.iload_n 1, 1) := by decide +kernel
theorem dX5_allTripHours_43 : decode cX5_allTripHours 43 = .ok (.ireturn, 1) := by decide +kernel
theorem dX5_allWaits_0 : decode cX5_allWaits 0 = .ok (.iconst 0, 1) := by decide +kernel
theorem dX5_allWaits_1 : decode cX5_allWaits 1 = .ok (.istore_n 1, 1) := by decide +kernel
theorem dX5_allWaits_2 : decode cX5_allWaits 2 = .ok (.iconst 0, 1) := by decide +kernel
theorem dX5_allWaits_3 : decode cX5_allWaits 3 = .ok (.istore_n 2, 1) := by decide +kernel
theorem dX5_allWaits_4 : decode cX5_allWaits 4 = .ok (.iload_n 2, 1) := by decide +kernel
theorem dX5_allWaits_5 : decode cX5_allWaits 5 = .ok (.aload_n 0, 1) := by decide +kernel
theorem dX5_allWaits_6 : decode cX5_allWaits 6 = .ok (.getfield 55, 3) := by decide +kernel
theorem dX5_allWaits_9 : decode cX5_allWaits 9 = .ok (.if_icmp .ge 43, 3) := by decide +kernel
theorem dX5_allWaits_12 : decode cX5_allWaits 12 = .ok (.aload_n 0, 1) := by decide +kernel
theorem dX5_allWaits_13 : decode cX5_allWaits 13 = .ok (.getfield 20, 3) := by decide +kernel
theorem dX5_allWaits_16 : decode cX5_allWaits 16 = .ok (.iload_n 2, 1) := by decide +kernel
theorem dX5_allWaits_17 : decode cX5_allWaits 17 = .ok (.aaload, 1) := by decide +kernel
theorem dX5_allWaits_18 : decode cX5_allWaits 18 = .ok (.invokevirtual 263, 3) := by decide +kernel
theorem dX5_allWaits_21 : decode cX5_allWaits 21 = .ok (.ifCond .eq 25, 3) := by decide +kernel
theorem dX5_allWaits_24 : decode cX5_allWaits 24 = .ok (.iload_n 1, 1) := by decide +kernel
theorem dX5_allWaits_25 : decode cX5_allWaits 25 = .ok (.aload_n 0, 1) := by decide +kernel
theorem dX5_allWaits_26 : decode cX5_allWaits 26 = .ok (.getfield 20, 3) := by decide +kernel
theorem dX5_allWaits_29 : decode cX5_allWaits 29 = .ok (.iload_n 2, 1) := by decide +kernel
theorem dX5_allWaits_30 : decode cX5_allWaits 30 = .ok (.aaload, 1) := by decide +kernel
theorem dX5_allWaits_31 : decode cX5_allWaits 31 = .ok (.getfield 168, 3) := by decide +kernel
theorem dX5_allWaits_34 : decode cX5_allWaits 34 = .ok (.aload_n 0, 1) := by decide +kernel
theorem dX5_allWaits_35 : decode cX5_allWaits 35 = .ok (.getfield 20, 3) := by decide +kernel
theorem dX5_allWaits_38 : decode cX5_allWaits 38 = .ok (.iload_n 2, 1) := by decide +kernel
theorem dX5_allWaits_39 : decode cX5_allWaits 39 = .ok (.aaload, 1) := by decide +kernel
theorem dX5_allWaits_40 : decode cX5_allWaits 40 = .ok (.getfield 99, 3) := by decide +kernel
theorem dX5_allWaits_43 : decode cX5_allWaits 43 = .ok (.isub, 1) := by decide +kernel
theorem dX5_allWaits_44 : decode cX5_allWaits 44 = .ok (.iadd, 1) := by decide +kernel
theorem dX5_allWaits_45 : decode cX5_allWaits 45 = .ok (.istore_n 1, 1) := by decide +kernel
theorem dX5_allWaits_46 : decode cX5_allWaits 46 = .ok (.iinc 2 1, 3) := by decide +kernel
theorem dX5_allWaits_49 : decode cX5_allWaits 49 = .ok (.goto (-45), 3) := by decide +kernel
theorem dX5_allWaits_52 : decode cX5_allWaits 52 = .ok (.iload_n 1, 1) := by decide +kernel
theorem dX5_allWaits_53 : decode cX5_allWaits 53 = .ok (.ireturn, 1) := by decide +kernel
theorem dX5_allPutOffs_0 : decode cX5_allPutOffs 0 = .ok (.iconst 0, 1) := by decide +kernel
theorem dX5_allPutOffs_1 : decode cX5_allPutOffs 1 = .ok (.istore_n 1, 1) := by decide +kernel
theorem dX5_allPutOffs_2 : decode cX5_allPutOffs 2 = .ok (.iconst 0, 1) := by decide +kernel
theorem dX5_allPutOffs_3 : decode cX5_allPutOffs 3 = .ok (.istore_n 2, 1) := by decide +kernel
theorem dX5_allPutOffs_4 : decode cX5_allPutOffs 4 = .ok (.iload_n 2, 1) := by decide +kernel
theorem dX5_allPutOffs_5 : decode cX5_allPutOffs 5 = .ok (.aload_n 0, 1) := by decide +kernel
theorem dX5_allPutOffs_6 : decode cX5_allPutOffs 6 = .ok (.getfield 55, 3) := by decide +kernel
theorem dX5_allPutOffs_9 : decode cX5_allPutOffs 9 = .ok (.if_icmp .ge 21, 3) := by decide +kernel
theorem dX5_allPutOffs_12 : decode cX5_allPutOffs 12 = .ok (.iload_n 1, 1) := by decide +kernel
theorem dX5_allPutOffs_13 : decode cX5_allPutOffs 13 = .ok (.aload_n 0, 1) := by decide +kernel
theorem dX5_allPutOffs_14 : decode cX5_allPutOffs 14 = .ok (.getfield 20, 3) := by decide +kernel
theorem dX5_allPutOffs_17 : decode cX5_allPutOffs 17 = .ok (.iload_n 2, 1) := by decide +kernel
theorem dX5_allPutOffs_18 : decode cX5_allPutOffs 18 = .ok (.aaload, 1) := by decide +kernel
theorem dX5_allPutOffs_19 : decode cX5_allPutOffs 19 = .ok (.getfield 266, 3) := by decide +kernel
theorem dX5_allPutOffs_22 : decode cX5_allPutOffs 22 = .ok (.iadd, 1) := by decide +kernel
theorem dX5_allPutOffs_23 : decode cX5_allPutOffs 23 = .ok (.istore_n 1, 1) := by decide +kernel
theorem dX5_allPutOffs_24 : decode cX5_allPutOffs 24 = .ok (.iinc 2 1, 3) := by decide +kernel
theorem dX5_allPutOffs_27 : decode cX5_allPutOffs 27 = .ok (.goto (-23), 3) := by decide +kernel
theorem dX5_allPutOffs_30 : decode cX5_allPutOffs 30 = .ok (.iload_n 1, 1) := by decide +kernel
theorem dX5_allPutOffs_31 : decode cX5_allPutOffs 31 = .ok (.ireturn, 1) := by decide +kernel
theorem dX5_pilotsUnderWay_0 : decode cX5_pilotsUnderWay 0 = .ok (.iconst 0, 1) := by decide +kernel
theorem dX5_pilotsUnderWay_1 : decode cX5_pilotsUnderWay 1 = .ok (.istore_n 1, 1) := by decide +kernel
theorem dX5_pilotsUnderWay_2 : decode cX5_pilotsUnderWay 2 = .ok (.iconst 0, 1) := by decide +kernel
theorem dX5_pilotsUnderWay_3 : decode cX5_pilotsUnderWay 3 = .ok (.istore_n 2, 1) := by decide +kernel
theorem dX5_pilotsUnderWay_4 : decode cX5_pilotsUnderWay 4 = .ok (.iload_n 2, 1) := by decide +kernel
theorem dX5_pilotsUnderWay_5 : decode cX5_pilotsUnderWay 5 = .ok (.aload_n 0, 1) := by decide +kernel
theorem dX5_pilotsUnderWay_6 : decode cX5_pilotsUnderWay 6 = .ok (.getfield 58, 3) := by decide +kernel
theorem dX5_pilotsUnderWay_9 : decode cX5_pilotsUnderWay 9 = .ok (.if_icmp .ge 29, 3) := by decide +kernel
theorem dX5_pilotsUnderWay_12 : decode cX5_pilotsUnderWay 12 = .ok (.aload_n 0, 1) := by decide +kernel
theorem dX5_pilotsUnderWay_13 : decode cX5_pilotsUnderWay 13 = .ok (.getfield 26, 3) := by decide +kernel
theorem dX5_pilotsUnderWay_16 : decode cX5_pilotsUnderWay 16 = .ok (.iload_n 2, 1) := by decide +kernel
theorem dX5_pilotsUnderWay_17 : decode cX5_pilotsUnderWay 17 = .ok (.aaload, 1) := by decide +kernel
theorem dX5_pilotsUnderWay_18 : decode cX5_pilotsUnderWay 18 = .ok (.aload_n 0, 1) := by decide +kernel
theorem dX5_pilotsUnderWay_19 : decode cX5_pilotsUnderWay 19 = .ok (.getfield 51, 3) := by decide +kernel
theorem dX5_pilotsUnderWay_22 : decode cX5_pilotsUnderWay 22 = .ok (.invokevirtual 269, 3) := by decide +kernel
theorem dX5_pilotsUnderWay_25 : decode cX5_pilotsUnderWay 25 = .ok (.iconst (-1), 1) := by decide +kernel
theorem dX5_pilotsUnderWay_26 : decode cX5_pilotsUnderWay 26 = .ok (.if_icmp .ne 6, 3) := by decide +kernel
theorem dX5_pilotsUnderWay_29 : decode cX5_pilotsUnderWay 29 = .ok (.iinc 1 1, 3) := by decide +kernel
theorem dX5_pilotsUnderWay_32 : decode cX5_pilotsUnderWay 32 = .ok (.iinc 2 1, 3) := by decide +kernel
theorem dX5_pilotsUnderWay_35 : decode cX5_pilotsUnderWay 35 = .ok (.goto (-31), 3) := by decide +kernel
theorem dX5_pilotsUnderWay_38 : decode cX5_pilotsUnderWay 38 = .ok (.iload_n 1, 1) := by decide +kernel
theorem dX5_pilotsUnderWay_39 : decode cX5_pilotsUnderWay 39 = .ok (.ireturn, 1) := by decide +kernel
theorem dX6_init_0 : decode cX6_init 0 = .ok (.aload_n 0, 1) := by decide +kernel
theorem dX6_init_1 : decode cX6_init 1 = .ok (.invokespecial 3, 3) := by decide +kernel
theorem dX6_init_4 : decode cX6_init 4 = .ok (.aload_n 0, 1) := by decide +kernel
theorem dX6_init_5 : decode cX6_init 5 = .ok (.bipush 60, 2) := by decide +kernel
theorem dX6_init_7 : decode cX6_init 7 = .ok (.newarray .char, 2) := by decide +kernel
theorem dX6_init_9 : decode cX6_init 9 = .ok (.putfield 9, 3) := by decide +kernel
theorem dX6_init_12 : decode cX6_init 12 = .ok (.return_, 1) := by decide +kernel
theorem dX6_append_0 : decode cX6_append 0 = .ok (.aload_n 0, 1) := by decide +kernel
theorem dX6_append_1 : decode cX6_append 1 = .ok (.getfield 15, 3) := by decide +kernel
theorem dX6_append_4 : decode cX6_append 4 = .ok (.bipush 60, 2) := by decide +kernel
theorem dX6_append_6 : decode cX6_append 6 = .ok (.if_icmp .ge 23, 3) := by decide +kernel
theorem dX6_append_9 : decode cX6_append 9 = .ok (.aload_n 0, 1) := by decide +kernel
theorem dX6_append_10 : decode cX6_append 10 = .ok (.getfield 9, 3) := by decide +kernel
theorem dX6_append_13 : decode cX6_append 13 = .ok (.aload_n 0, 1) := by decide +kernel
theorem dX6_append_14 : decode cX6_append 14 = .ok (.getfield 15, 3) := by decide +kernel
theorem dX6_append_17 : decode cX6_append 17 = .ok (.iload_n 1, 1) := by decide +kernel
theorem dX6_append_18 : decode cX6_append 18 = .ok (.castore, 1) := by decide +kernel
theorem dX6_append_19 : decode cX6_append 19 = .ok (.aload_n 0, 1) := by decide +kernel
theorem dX6_append_20 : decode cX6_append 20 = .ok (.dup, 1) := by decide +kernel
theorem dX6_append_21 : decode cX6_append 21 = .ok (.getfield 15, 3) := by decide +kernel
theorem dX6_append_24 : decode cX6_append 24 = .ok (.iconst 1, 1) := by decide +kernel
theorem dX6_append_25 : decode cX6_append 25 = .ok (.iadd, 1) := by decide +kernel
theorem dX6_append_26 : decode cX6_append 26 = .ok (.putfield 15, 3) := by decide +kernel
theorem dX6_append_29 : decode cX6_append 29 = .ok (.return_, 1) := by decide +kernel
theorem dX6_clear_0 : decode cX6_clear 0 = .ok (.aload_n 0, 1) := by decide +kernel
theorem dX6_clear_1 : decode cX6_clear 1 = .ok (.iconst 0, 1) := by decide +kernel
theorem dX6_clear_2 : decode cX6_clear 2 = .ok (.putfield 15, 3) := by decide +kernel
theorem dX6_clear_5 : decode cX6_clear 5 = .ok (.return_, 1) := by decide +kernel
theorem dX6_rewind_0 : decode cX6_rewind 0 = .ok (.aload_n 0, 1) := by decide +kernel
theorem dX6_rewind_1 : decode cX6_rewind 1 = .ok (.iconst 0, 1) := by decide +kernel
theorem dX6_rewind_2 : decode cX6_rewind 2 = .ok (.putfield 19, 3) := by decide +kernel
theorem dX6_rewind_5 : decode cX6_rewind 5 = .ok (.return_, 1) := by decide +kernel
theorem dX6_countItems_0 : decode cX6_countItems 0 = .ok (.aload_n 0, 1) := by decide +kernel
theorem dX6_countItems_1 : decode cX6_countItems 1 = .ok (.invokevirtual 22, 3) := by decide +kernel
theorem dX6_countItems_4 : decode cX6_countItems 4 = .ok (.iconst 1, 1) := by decide +kernel
theorem dX6_countItems_5 : decode cX6_countItems 5 = .ok (.istore_n 1, 1) := by decide +kernel
theorem dX6_countItems_6 : decode cX6_countItems 6 = .ok (.iload_n 1, 1) := by decide +kernel
theorem dX6_countItems_7 : decode cX6_countItems 7 = .ok (.bipush 60, 2) := by decide +kernel
theorem dX6_countItems_9 : decode cX6_countItems 9 = .ok (.if_icmp .gt 44, 3) := by decide +kernel
theorem dX6_countItems_12 : decode cX6_countItems 12 = .ok (.aload_n 0, 1) := by decide +kernel
theorem dX6_countItems_13 : decode cX6_countItems 13 = .ok (.invokevirtual 25, 3) := by decide +kernel
theorem dX6_countItems_16 : decode cX6_countItems 16 = .ok (.ifCond .ne 5, 3) := by decide +kernel
theorem dX6_countItems_19 : decode cX6_countItems 19 = .ok (.iconst 0, 1) := by decide +kernel
theorem dX6_countItems_20 : decode cX6_countItems 20 = .ok (.ireturn, 1) := by decide +kernel
theorem dX6_countItems_21 : decode cX6_countItems 21 = .ok (.aload_n 0, 1) := by decide +kernel
theorem dX6_countItems_22 : decode cX6_countItems 22 = .ok (.bipush 59, 2) := by decide +kernel
theorem dX6_countItems_24 : decode cX6_countItems 24 = .ok (.invokevirtual 29, 3) := by decide +kernel
theorem dX6_countItems_27 : decode cX6_countItems 27 = .ok (.ifCond .ne 20, 3) := by decide +kernel
theorem dX6_countItems_30 : decode cX6_countItems 30 = .ok (.aload_n 0, 1) := by decide +kernel
theorem dX6_countItems_31 : decode cX6_countItems 31 = .ok (.getfield 19, 3) := by decide +kernel
theorem dX6_countItems_34 : decode cX6_countItems 34 = .ok (.aload_n 0, 1) := by decide +kernel
theorem dX6_countItems_35 : decode cX6_countItems 35 = .ok (.getfield 15, 3) := by decide +kernel
theorem dX6_countItems_38 : decode cX6_countItems 38 = .ok (.if_icmp .ne 7, 3) := by decide +kernel
theorem dX6_countItems_41 : decode cX6_countItems 41 = .ok (.iload_n 1, 1) := by decide +kernel
theorem dX6_countItems_42 : decode cX6_countItems 42 = .ok (.goto 4, 3) := by decide +kernel
theorem dX6_countItems_45 : decode cX6_countItems 45 = .ok (.iconst 0, 1) := by decide +kernel
theorem dX6_countItems_46 : decode cX6_countItems 46 = .ok (.ireturn, 1) := by decide +kernel
theorem dX6_countItems_47 : decode cX6_countItems 47 = .ok (.iinc 1 1, 3) := by decide +kernel
theorem dX6_countItems_50 : decode cX6_countItems 50 = .ok (.goto (-44), 3) := by decide +kernel
theorem dX6_countItems_53 : decode cX6_countItems 53 = .ok (.iconst 0, 1) := by decide +kernel
theorem dX6_countItems_54 : decode cX6_countItems 54 = .ok (.ireturn, 1) := by decide +kernel
theorem dX6_nextItem_0 : decode cX6_nextItem 0 = .ok (.aload_n 0, 1) := by decide +kernel
theorem dX6_nextItem_1 : decode cX6_nextItem 1 = .ok (.bipush 59, 2) := by decide +kernel
theorem dX6_nextItem_3 : decode cX6_nextItem 3 = .ok (.invokevirtual 29, 3) := by decide +kernel
theorem dX6_nextItem_6 : decode cX6_nextItem 6 = .ok (.pop, 1) := by decide +kernel
theorem dX6_nextItem_7 : decode cX6_nextItem 7 = .ok (.aload_n 0, 1) := by decide +kernel
theorem dX6_nextItem_8 : decode cX6_nextItem 8 = .ok (.invokevirtual 25, 3) := by decide +kernel
theorem dX6_nextItem_11 : decode cX6_nextItem 11 = .ok (.pop, 1) := by decide +kernel
theorem dX6_nextItem_12 : decode cX6_nextItem 12 = .ok (.return_, 1) := by decide +kernel
theorem dX6_readItem_0 : decode cX6_readItem 0 = .ok (.aload_n 0, 1) := by decide +kernel
theorem dX6_readItem_1 : decode cX6_readItem 1 = .ok (.invokevirtual 33, 3) := by decide +kernel
theorem dX6_readItem_4 : decode cX6_readItem 4 = .ok (.istore_n 1, 1) := by decide +kernel
theorem dX6_readItem_5 : decode cX6_readItem 5 = .ok (.iload_n 1, 1) := by decide +kernel
theorem dX6_readItem_6 : decode cX6_readItem 6 = .ok (.bipush 49, 2) := by decide +kernel
theorem dX6_readItem_8 : decode cX6_readItem 8 = .ok (.if_icmp .lt 32, 3) := by decide +kernel
theorem dX6_readItem_11 : decode cX6_readItem 11 = .ok (.iload_n 1, 1) := by decide +kernel
theorem dX6_readItem_12 : decode cX6_readItem 12 = .ok (.bipush 52, 2) := by decide +kernel
theorem dX6_readItem_14 : decode cX6_readItem 14 = .ok (.if_icmp .gt 26, 3) := by decide +kernel
theorem dX6_readItem_17 : decode cX6_readItem 17 = .ok (.aload_n 0, 1) := by decide +kernel
theorem dX6_readItem_18 : decode cX6_readItem 18 = .ok (.dup, 1) := by decide +kernel
theorem dX6_readItem_19 : decode cX6_readItem 19 = .ok (.getfield 19, 3) := by decide +kernel
theorem dX6_readItem_22 : decode cX6_readItem 22 = .ok (.iconst 1, 1) := by decide +kernel
theorem dX6_readItem_23 : decode cX6_readItem 23 = .ok (.iadd, 1) := by decide +kernel
theorem dX6_readItem_24 : decode cX6_readItem 24 = .ok (.putfield 19, 3) := by decide +kernel
theorem dX6_readItem_27 : decode cX6_readItem 27 = .ok (.aload_n 0, 1) := by decide +kernel
theorem dX6_readItem_28 : decode cX6_readItem 28 = .ok (.iload_n 1, 1) := by decide +kernel
theorem dX6_readItem_29 : decode cX6_readItem 29 = .ok (.bipush 48, 2) := by decide +kernel
theorem dX6_readItem_31 : decode cX6_readItem 31 = .ok (.isub, 1) := by decide +kernel
theorem dX6_readItem_32 : decode cX6_readItem 32 = .ok (.putfield 37, 3) := by decide +kernel
theorem dX6_readItem_35 : decode cX6_readItem 35 = .ok (.aload_n 0, 1) := by decide +kernel
theorem dX6_readItem_36 : decode cX6_readItem 36 = .ok (.invokevirtual 40, 3) := by decide +kernel
theorem dX6_readItem_39 : decode cX6_readItem 39 = .ok (.ireturn, 1) := by decide +kernel
theorem dX6_readItem_40 : decode cX6_readItem 40 = .ok (.iload_n 1, 1) := by decide +kernel
theorem dX6_readItem_41 : decode cX6_readItem 41 = .ok (.bipush 115, 2) := by decide +kernel
theorem dX6_readItem_43 : decode cX6_readItem 43 = .ok (.if_icmp .eq 17, 3) := by decide +kernel
theorem dX6_readItem_46 : decode cX6_readItem 46 = .ok (.iload_n 1, 1) := by decide +kernel
theorem dX6_readItem_47 : decode cX6_readItem 47 = .ok (.bipush 100, 2) := by decide +kernel
theorem dX6_readItem_49 : decode cX6_readItem 49 = .ok (.if_icmp .eq 11, 3) := by decide +kernel
theorem dX6_readItem_52 : decode cX6_readItem 52 = .ok (.iload_n 1, 1) := by decide +kernel
theorem dX6_readItem_53 : decode cX6_readItem 53 = .ok (.bipush 119, 2) := by decide +kernel
theorem dX6_readItem_55 : decode cX6_readItem 55 = .ok (.if_icmp .eq 5, 3) := by decide +kernel
theorem dX6_readItem_58 : decode cX6_readItem 58 = .ok (.iconst 0, 1) := by decide +kernel
theorem dX6_readItem_59 : decode cX6_readItem 59 = .ok (.ireturn, 1) := by decide +kernel
theorem dX6_readItem_60 : decode cX6_readItem 60 = .ok (.aload_n 0, 1) := by decide +kernel
theorem dX6_readItem_61 : decode cX6_readItem 61 = .ok (.dup, 1) := by decide +kernel
theorem dX6_readItem_62 : decode cX6_readItem 62 = .ok (.getfield 19, 3) := by decide +kernel
theorem dX6_readItem_65 : decode cX6_readItem 65 = .ok (.iconst 1, 1) := by decide +kernel
theorem dX6_readItem_66 : decode cX6_readItem 66 = .ok (.iadd, 1) := by decide +kernel
theorem dX6_readItem_67 : decode cX6_readItem 67 = .ok (.putfield 19, 3) := by decide +kernel
theorem dX6_readItem_70 : decode cX6_readItem 70 = .ok (.aload_n 0, 1) := by decide +kernel
theorem dX6_readItem_71 : decode cX6_readItem 71 = .ok (.iload_n 1, 1) := by decide +kernel
theorem dX6_readItem_72 : decode cX6_readItem 72 = .ok (.putfield 43, 3) := by decide +kernel
