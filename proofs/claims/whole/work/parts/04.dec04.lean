theorem dX9_restedFrom_14 : decode cX9_restedFrom 14 = .ok (.iload_n 1, 1) := by decide +kernel
theorem dX9_restedFrom_15 : decode cX9_restedFrom 15 = .ok (.invokevirtual 124, 3) := by decide +kernel
theorem dX9_restedFrom_18 : decode cX9_restedFrom 18 = .ok (.ifCond .eq 24, 3) := by decide +kernel
theorem dX9_restedFrom_21 : decode cX9_restedFrom 21 = .ok (.iload_n 2, 1) := by decide +kernel
theorem dX9_restedFrom_22 : decode cX9_restedFrom 22 = .ok (.ifCond .lt 18, 3) := by decide +kernel
theorem dX9_restedFrom_25 : decode cX9_restedFrom 25 = .ok (.aload_n 0, 1) := by decide +kernel
theorem dX9_restedFrom_26 : decode cX9_restedFrom 26 = .ok (.getfield 37, 3) := by decide +kernel
theorem dX9_restedFrom_29 : decode cX9_restedFrom 29 = .ok (.iload_n 3, 1) := by decide +kernel
theorem dX9_restedFrom_30 : decode cX9_restedFrom 30 = .ok (.iaload, 1) := by decide +kernel
theorem dX9_restedFrom_31 : decode cX9_restedFrom 31 = .ok (.aload_n 0, 1) := by decide +kernel
theorem dX9_restedFrom_32 : decode cX9_restedFrom 32 = .ok (.getfield 37, 3) := by decide +kernel
theorem dX9_restedFrom_35 : decode cX9_restedFrom 35 = .ok (.iload_n 2, 1) := by decide +kernel
theorem dX9_restedFrom_36 : decode cX9_restedFrom 36 = .ok (.iaload, 1) := by decide +kernel
theorem dX9_restedFrom_37 : decode cX9_restedFrom 37 = .ok (.if_icmp .le 5, 3) := by decide +kernel
theorem dX9_restedFrom_40 : decode cX9_restedFrom 40 = .ok (.iload_n 3, 1) := by decide +kernel
theorem dX9_restedFrom_41 : decode cX9_restedFrom 41 = .ok (.istore_n 2, 1) := by decide +kernel
theorem dX9_restedFrom_42 : decode cX9_restedFrom 42 = .ok (.iinc 3 1, 3) := by decide +kernel
theorem dX9_restedFrom_45 : decode cX9_restedFrom 45 = .ok (.goto (-41), 3) := by decide +kernel
theorem dX9_restedFrom_48 : decode cX9_restedFrom 48 = .ok (.iload_n 2, 1) := by decide +kernel
theorem dX9_restedFrom_49 : decode cX9_restedFrom 49 = .ok (.ifCond .ge 7, 3) := by decide +kernel
theorem dX9_restedFrom_52 : decode cX9_restedFrom 52 = .ok (.iconst 0, 1) := by decide +kernel
theorem dX9_restedFrom_53 : decode cX9_restedFrom 53 = .ok (.goto 34, 3) := by decide +kernel
theorem dX9_restedFrom_56 : decode cX9_restedFrom 56 = .ok (.aload_n 0, 1) := by decide +kernel
theorem dX9_restedFrom_57 : decode cX9_restedFrom 57 = .ok (.iload_n 2, 1) := by decide +kernel
theorem dX9_restedFrom_58 : decode cX9_restedFrom 58 = .ok (.invokevirtual 127, 3) := by decide +kernel
theorem dX9_restedFrom_61 : decode cX9_restedFrom 61 = .ok (.aload_n 0, 1) := by decide +kernel
theorem dX9_restedFrom_62 : decode cX9_restedFrom 62 = .ok (.getfield 7, 3) := by decide +kernel
theorem dX9_restedFrom_65 : decode cX9_restedFrom 65 = .ok (.iconst 0, 1) := by decide +kernel
theorem dX9_restedFrom_66 : decode cX9_restedFrom 66 = .ok (.iaload, 1) := by decide +kernel
theorem dX9_restedFrom_67 : decode cX9_restedFrom 67 = .ok (.iadd, 1) := by decide +kernel
theorem dX9_restedFrom_68 : decode cX9_restedFrom 68 = .ok (.aload_n 0, 1) := by decide +kernel
theorem dX9_restedFrom_69 : decode cX9_restedFrom 69 = .ok (.iload_n 2, 1) := by decide +kernel
theorem dX9_restedFrom_70 : decode cX9_restedFrom 70 = .ok (.invokevirtual 152, 3) := by decide +kernel
theorem dX9_restedFrom_73 : decode cX9_restedFrom 73 = .ok (.ifCond .eq 12, 3) := by decide +kernel
theorem dX9_restedFrom_76 : decode cX9_restedFrom 76 = .ok (.aload_n 0, 1) := by decide +kernel
theorem dX9_restedFrom_77 : decode cX9_restedFrom 77 = .ok (.getfield 7, 3) := by decide +kernel
theorem dX9_restedFrom_80 : decode cX9_restedFrom 80 = .ok (.iconst 4, 1) := by decide +kernel
theorem dX9_restedFrom_81 : decode cX9_restedFrom 81 = .ok (.iaload, 1) := by decide +kernel
theorem dX9_restedFrom_82 : decode cX9_restedFrom 82 = .ok (.goto 4, 3) := by decide +kernel
theorem dX9_restedFrom_85 : decode cX9_restedFrom 85 = .ok (.iconst 0, 1) := by decide +kernel
theorem dX9_restedFrom_86 : decode cX9_restedFrom 86 = .ok (.iadd, 1) := by decide +kernel
theorem dX9_restedFrom_87 : decode cX9_restedFrom 87 = .ok (.ireturn, 1) := by decide +kernel
theorem dX9_whyNot_0 : decode cX9_whyNot 0 = .ok (.aload_n 0, 1) := by decide +kernel
theorem dX9_whyNot_1 : decode cX9_whyNot 1 = .ok (.getfield 31, 3) := by decide +kernel
theorem dX9_whyNot_4 : decode cX9_whyNot 4 = .ok (.iload_n 1, 1) := by decide +kernel
theorem dX9_whyNot_5 : decode cX9_whyNot 5 = .ok (.iaload, 1) := by decide +kernel
theorem dX9_whyNot_6 : decode cX9_whyNot 6 = .ok (.ifCond .eq 5, 3) := by decide +kernel
theorem dX9_whyNot_9 : decode cX9_whyNot 9 = .ok (.iconst 1, 1) := by decide +kernel
theorem dX9_whyNot_10 : decode cX9_whyNot 10 = .ok (.ireturn, 1) := by decide +kernel
theorem dX9_whyNot_11 : decode cX9_whyNot 11 = .ok (.iload_n 3, 1) := by decide +kernel
theorem dX9_whyNot_12 : decode cX9_whyNot 12 = .ok (.aload_n 0, 1) := by decide +kernel
theorem dX9_whyNot_13 : decode cX9_whyNot 13 = .ok (.getfield 155, 3) := by decide +kernel
theorem dX9_whyNot_16 : decode cX9_whyNot 16 = .ok (.if_icmp .lt 22, 3) := by decide +kernel
theorem dX9_whyNot_19 : decode cX9_whyNot 19 = .ok (.iload_n 3, 1) := by decide +kernel
theorem dX9_whyNot_20 : decode cX9_whyNot 20 = .ok (.aload_n 0, 1) := by decide +kernel
theorem dX9_whyNot_21 : decode cX9_whyNot 21 = .ok (.getfield 25, 3) := by decide +kernel
theorem dX9_whyNot_24 : decode cX9_whyNot 24 = .ok (.iload_n 1, 1) := by decide +kernel
theorem dX9_whyNot_25 : decode cX9_whyNot 25 = .ok (.iaload, 1) := by decide +kernel
theorem dX9_whyNot_26 : decode cX9_whyNot 26 = .ok (.aload_n 0, 1) := by decide +kernel
theorem dX9_whyNot_27 : decode cX9_whyNot 27 = .ok (.getfield 28, 3) := by decide +kernel
theorem dX9_whyNot_30 : decode cX9_whyNot 30 = .ok (.iload_n 1, 1) := by decide +kernel
theorem dX9_whyNot_31 : decode cX9_whyNot 31 = .ok (.iaload, 1) := by decide +kernel
theorem dX9_whyNot_32 : decode cX9_whyNot 32 = .ok (.invokestatic 90, 3) := by decide +kernel
theorem dX9_whyNot_35 : decode cX9_whyNot 35 = .ok (.ifCond .ne 5, 3) := by decide +kernel
theorem dX9_whyNot_38 : decode cX9_whyNot 38 = .ok (.iconst 2, 1) := by decide +kernel
theorem dX9_whyNot_39 : decode cX9_whyNot 39 = .ok (.ireturn, 1) := by decide +kernel
theorem dX9_whyNot_40 : decode cX9_whyNot 40 = .ok (.aload_n 0, 1) := by decide +kernel
theorem dX9_whyNot_41 : decode cX9_whyNot 41 = .ok (.iload_n 1, 1) := by decide +kernel
theorem dX9_whyNot_42 : decode cX9_whyNot 42 = .ok (.iload_n 3, 1) := by decide +kernel
theorem dX9_whyNot_43 : decode cX9_whyNot 43 = .ok (.invokevirtual 114, 3) := by decide +kernel
theorem dX9_whyNot_46 : decode cX9_whyNot 46 = .ok (.ifCond .ne 5, 3) := by decide +kernel
theorem dX9_whyNot_49 : decode cX9_whyNot 49 = .ok (.iconst 3, 1) := by decide +kernel
theorem dX9_whyNot_50 : decode cX9_whyNot 50 = .ok (.ireturn, 1) := by decide +kernel
theorem dX9_whyNot_51 : decode cX9_whyNot 51 = .ok (.aload_n 0, 1) := by decide +kernel
theorem dX9_whyNot_52 : decode cX9_whyNot 52 = .ok (.getfield 43, 3) := by decide +kernel
theorem dX9_whyNot_55 : decode cX9_whyNot 55 = .ok (.iload_n 2, 1) := by decide +kernel
theorem dX9_whyNot_56 : decode cX9_whyNot 56 = .ok (.iaload, 1) := by decide +kernel
theorem dX9_whyNot_57 : decode cX9_whyNot 57 = .ok (.aload_n 0, 1) := by decide +kernel
theorem dX9_whyNot_58 : decode cX9_whyNot 58 = .ok (.getfield 16, 3) := by decide +kernel
theorem dX9_whyNot_61 : decode cX9_whyNot 61 = .ok (.iload_n 1, 1) := by decide +kernel
theorem dX9_whyNot_62 : decode cX9_whyNot 62 = .ok (.iaload, 1) := by decide +kernel
theorem dX9_whyNot_63 : decode cX9_whyNot 63 = .ok (.if_icmp .ge 5, 3) := by decide +kernel
theorem dX9_whyNot_66 : decode cX9_whyNot 66 = .ok (.iconst 4, 1) := by decide +kernel
theorem dX9_whyNot_67 : decode cX9_whyNot 67 = .ok (.ireturn, 1) := by decide +kernel
theorem dX9_whyNot_68 : decode cX9_whyNot 68 = .ok (.iload_n 3, 1) := by decide +kernel
theorem dX9_whyNot_69 : decode cX9_whyNot 69 = .ok (.iload 4, 2) := by decide +kernel
theorem dX9_whyNot_71 : decode cX9_whyNot 71 = .ok (.if_icmp .ge 5, 3) := by decide +kernel
theorem dX9_whyNot_74 : decode cX9_whyNot 74 = .ok (.iconst 5, 1) := by decide +kernel
theorem dX9_whyNot_75 : decode cX9_whyNot 75 = .ok (.ireturn, 1) := by decide +kernel
theorem dX9_whyNot_76 : decode cX9_whyNot 76 = .ok (.iload 5, 2) := by decide +kernel
theorem dX9_whyNot_78 : decode cX9_whyNot 78 = .ok (.aload_n 0, 1) := by decide +kernel
theorem dX9_whyNot_79 : decode cX9_whyNot 79 = .ok (.iload_n 1, 1) := by decide +kernel
theorem dX9_whyNot_80 : decode cX9_whyNot 80 = .ok (.invokevirtual 158, 3) := by decide +kernel
theorem dX9_whyNot_83 : decode cX9_whyNot 83 = .ok (.if_icmp .eq 6, 3) := by decide +kernel
theorem dX9_whyNot_86 : decode cX9_whyNot 86 = .ok (.bipush 6, 2) := by decide +kernel
theorem dX9_whyNot_88 : decode cX9_whyNot 88 = .ok (.ireturn, 1) := by decide +kernel
theorem dX9_whyNot_89 : decode cX9_whyNot 89 = .ok (.iload_n 3, 1) := by decide +kernel
theorem dX9_whyNot_90 : decode cX9_whyNot 90 = .ok (.aload_n 0, 1) := by decide +kernel
theorem dX9_whyNot_91 : decode cX9_whyNot 91 = .ok (.iload_n 2, 1) := by decide +kernel
theorem dX9_whyNot_92 : decode cX9_whyNot 92 = .ok (.invokevirtual 161, 3) := by decide +kernel
theorem dX9_whyNot_95 : decode cX9_whyNot 95 = .ok (.if_icmp .ge 8, 3) := by decide +kernel
theorem dX9_whyNot_98 : decode cX9_whyNot 98 = .ok (.bipush 7, 2) := by decide +kernel
theorem dX9_whyNot_100 : decode cX9_whyNot 100 = .ok (.goto 4, 3) := by decide +kernel
theorem dX9_whyNot_103 : decode cX9_whyNot 103 = .ok (.iconst 0, 1) := by decide +kernel
theorem dX9_whyNot_104 : decode cX9_whyNot 104 = .ok (.ireturn, 1) := by decide +kernel
theorem dX9_whyNotTrip_0 : decode cX9_whyNotTrip 0 = .ok (.aload_n 0, 1) := by decide +kernel
theorem dX9_whyNotTrip_1 : decode cX9_whyNotTrip 1 = .ok (.iload_n 2, 1) := by decide +kernel
theorem dX9_whyNotTrip_2 : decode cX9_whyNotTrip 2 = .ok (.invokevirtual 164, 3) := by decide +kernel
theorem dX9_whyNotTrip_5 : decode cX9_whyNotTrip 5 = .ok (.aload_n 0, 1) := by decide +kernel
theorem dX9_whyNotTrip_6 : decode cX9_whyNotTrip 6 = .ok (.iload_n 1, 1) := by decide +kernel
theorem dX9_whyNotTrip_7 : decode cX9_whyNotTrip 7 = .ok (.iload_n 2, 1) := by decide +kernel
theorem dX9_whyNotTrip_8 : decode cX9_whyNotTrip 8 = .ok (.iload_n 3, 1) := by decide +kernel
theorem dX9_whyNotTrip_9 : decode cX9_whyNotTrip 9 = .ok (.aload_n 0, 1) := by decide +kernel
theorem dX9_whyNotTrip_10 : decode cX9_whyNotTrip 10 = .ok (.getfield 118, 3) := by decide +kernel
theorem dX9_whyNotTrip_13 : decode cX9_whyNotTrip 13 = .ok (.aload_n 0, 1) := by decide +kernel
theorem dX9_whyNotTrip_14 : decode cX9_whyNotTrip 14 = .ok (.getfield 121, 3) := by decide +kernel
theorem dX9_whyNotTrip_17 : decode cX9_whyNotTrip 17 = .ok (.invokevirtual 168, 3) := by decide +kernel
theorem dX9_whyNotTrip_20 : decode cX9_whyNotTrip 20 = .ok (.ireturn, 1) := by decide +kernel
theorem dX9_placeOfBoat_0 : decode cX9_placeOfBoat 0 = .ok (.aload_n 0, 1) := by decide +kernel
theorem dX9_placeOfBoat_1 : decode cX9_placeOfBoat 1 = .ok (.getfield 55, 3) := by decide +kernel
theorem dX9_placeOfBoat_4 : decode cX9_placeOfBoat 4 = .ok (.iload_n 1, 1) := by decide +kernel
theorem dX9_placeOfBoat_5 : decode cX9_placeOfBoat 5 = .ok (.iaload, 1) := by decide +kernel
theorem dX9_placeOfBoat_6 : decode cX9_placeOfBoat 6 = .ok (.iconst 2, 1) := by decide +kernel
theorem dX9_placeOfBoat_7 : decode cX9_placeOfBoat 7 = .ok (.irem, 1) := by decide +kernel
theorem dX9_placeOfBoat_8 : decode cX9_placeOfBoat 8 = .ok (.ireturn, 1) := by decide +kernel
theorem dX9_whyNotRun_0 : decode cX9_whyNotRun 0 = .ok (.iload_n 2, 1) := by decide +kernel
theorem dX9_whyNotRun_1 : decode cX9_whyNotRun 1 = .ok (.aload_n 0, 1) := by decide +kernel
theorem dX9_whyNotRun_2 : decode cX9_whyNotRun 2 = .ok (.getfield 155, 3) := by decide +kernel
theorem dX9_whyNotRun_5 : decode cX9_whyNotRun 5 = .ok (.if_icmp .ge 5, 3) := by decide +kernel
theorem dX9_whyNotRun_8 : decode cX9_whyNotRun 8 = .ok (.iconst 2, 1) := by decide +kernel
theorem dX9_whyNotRun_9 : decode cX9_whyNotRun 9 = .ok (.ireturn, 1) := by decide +kernel
theorem dX9_whyNotRun_10 : decode cX9_whyNotRun 10 = .ok (.iload_n 2, 1) := by decide +kernel
theorem dX9_whyNotRun_11 : decode cX9_whyNotRun 11 = .ok (.aload_n 0, 1) := by decide +kernel
theorem dX9_whyNotRun_12 : decode cX9_whyNotRun 12 = .ok (.getfield 58, 3) := by decide +kernel
theorem dX9_whyNotRun_15 : decode cX9_whyNotRun 15 = .ok (.iload_n 1, 1) := by decide +kernel
theorem dX9_whyNotRun_16 : decode cX9_whyNotRun 16 = .ok (.iaload, 1) := by decide +kernel
theorem dX9_whyNotRun_17 : decode cX9_whyNotRun 17 = .ok (.if_icmp .ge 6, 3) := by decide +kernel
theorem dX9_whyNotRun_20 : decode cX9_whyNotRun 20 = .ok (.bipush 8, 2) := by decide +kernel
theorem dX9_whyNotRun_22 : decode cX9_whyNotRun 22 = .ok (.ireturn, 1) := by decide +kernel
theorem dX9_whyNotRun_23 : decode cX9_whyNotRun 23 = .ok (.iload_n 3, 1) := by decide +kernel
theorem dX9_whyNotRun_24 : decode cX9_whyNotRun 24 = .ok (.invokestatic 172, 3) := by decide +kernel
theorem dX9_whyNotRun_27 : decode cX9_whyNotRun 27 = .ok (.aload_n 0, 1) := by decide +kernel
theorem dX9_whyNotRun_28 : decode cX9_whyNotRun 28 = .ok (.getfield 52, 3) := by decide +kernel
theorem dX9_whyNotRun_31 : decode cX9_whyNotRun 31 = .ok (.iload_n 1, 1) := by decide +kernel
theorem dX9_whyNotRun_32 : decode cX9_whyNotRun 32 = .ok (.iaload, 1) := by decide +kernel
theorem dX9_whyNotRun_33 : decode cX9_whyNotRun 33 = .ok (.if_icmp .le 6, 3) := by decide +kernel
theorem dX9_whyNotRun_36 : decode cX9_whyNotRun 36 = .ok (.bipush 9, 2) := by decide +kernel
theorem dX9_whyNotRun_38 : decode cX9_whyNotRun 38 = .ok (.ireturn, 1) := by decide +kernel
theorem dX9_whyNotRun_39 : decode cX9_whyNotRun 39 = .ok (.iconst 0, 1) := by decide +kernel
theorem dX9_whyNotRun_40 : decode cX9_whyNotRun 40 = .ok (.istore 4, 2) := by decide +kernel
theorem dX9_whyNotRun_42 : decode cX9_whyNotRun 42 = .ok (.iload 4, 2) := by decide +kernel
theorem dX9_whyNotRun_44 : decode cX9_whyNotRun 44 = .ok (.aload_n 0, 1) := by decide +kernel
theorem dX9_whyNotRun_45 : decode cX9_whyNotRun 45 = .ok (.getfield 94, 3) := by decide +kernel
theorem dX9_whyNotRun_48 : decode cX9_whyNotRun 48 = .ok (.if_icmp .ge 38, 3) := by decide +kernel
theorem dX9_whyNotRun_51 : decode cX9_whyNotRun 51 = .ok (.iload_n 3, 1) := by decide +kernel
theorem dX9_whyNotRun_52 : decode cX9_whyNotRun 52 = .ok (.iload 4, 2) := by decide +kernel
theorem dX9_whyNotRun_54 : decode cX9_whyNotRun 54 = .ok (.ishr, 1) := by decide +kernel
theorem dX9_whyNotRun_55 : decode cX9_whyNotRun 55 = .ok (.iconst 1, 1) := by decide +kernel
theorem dX9_whyNotRun_56 : decode cX9_whyNotRun 56 = .ok (.iand, 1) := by decide +kernel
theorem dX9_whyNotRun_57 : decode cX9_whyNotRun 57 = .ok (.ifCond .ne 6, 3) := by decide +kernel
theorem dX9_whyNotRun_60 : decode cX9_whyNotRun 60 = .ok (.goto 20, 3) := by decide +kernel
theorem dX9_whyNotRun_63 : decode cX9_whyNotRun 63 = .ok (.aload_n 0, 1) := by decide +kernel
theorem dX9_whyNotRun_64 : decode cX9_whyNotRun 64 = .ok (.iload 4, 2) := by decide +kernel
theorem dX9_whyNotRun_66 : decode cX9_whyNotRun 66 = .ok (.invokevirtual 164, 3) := by decide +kernel
theorem dX9_whyNotRun_69 : decode cX9_whyNotRun 69 = .ok (.iload_n 2, 1) := by decide +kernel
theorem dX9_whyNotRun_70 : decode cX9_whyNotRun 70 = .ok (.aload_n 0, 1) := by decide +kernel
theorem dX9_whyNotRun_71 : decode cX9_whyNotRun 71 = .ok (.getfield 118, 3) := by decide +kernel
theorem dX9_whyNotRun_74 : decode cX9_whyNotRun 74 = .ok (.if_icmp .ge 6, 3) := by decide +kernel
theorem dX9_whyNotRun_77 : decode cX9_whyNotRun 77 = .ok (.bipush 10, 2) := by decide +kernel
theorem dX9_whyNotRun_79 : decode cX9_whyNotRun 79 = .ok (.ireturn, 1) := by decide +kernel
theorem dX9_whyNotRun_80 : decode cX9_whyNotRun 80 = .ok (.iinc 4 1, 3) := by decide +kernel
theorem dX9_whyNotRun_83 : decode cX9_whyNotRun 83 = .ok (.goto (-41), 3) := by decide +kernel
theorem dX9_whyNotRun_86 : decode cX9_whyNotRun 86 = .ok (.iconst 0, 1) := by decide +kernel
theorem dX9_whyNotRun_87 : decode cX9_whyNotRun 87 = .ok (.istore 4, 2) := by decide +kernel
theorem dX9_whyNotRun_89 : decode cX9_whyNotRun 89 = .ok (.iload 4, 2) := by decide +kernel
theorem dX9_whyNotRun_91 : decode cX9_whyNotRun 91 = .ok (.aload_n 0, 1) := by decide +kernel
theorem dX9_whyNotRun_92 : decode cX9_whyNotRun 92 = .ok (.getfield 94, 3) := by decide +kernel
theorem dX9_whyNotRun_95 : decode cX9_whyNotRun 95 = .ok (.if_icmp .ge 42, 3) := by decide +kernel
theorem dX9_whyNotRun_98 : decode cX9_whyNotRun 98 = .ok (.iload_n 3, 1) := by decide +kernel
theorem dX9_whyNotRun_99 : decode cX9_whyNotRun 99 = .ok (.iload 4, 2) := by decide +kernel
theorem dX9_whyNotRun_101 : decode cX9_whyNotRun 101 = .ok (.ishr, 1) := by decide +kernel
theorem dX9_whyNotRun_102 : decode cX9_whyNotRun 102 = .ok (.iconst 1, 1) := by decide +kernel
theorem dX9_whyNotRun_103 : decode cX9_whyNotRun 103 = .ok (.iand, 1) := by decide +kernel
theorem dX9_whyNotRun_104 : decode cX9_whyNotRun 104 = .ok (.ifCond .ne 6, 3) := by decide +kernel
theorem dX9_whyNotRun_107 : decode cX9_whyNotRun 107 = .ok (.goto 24, 3) := by decide +kernel
theorem dX9_whyNotRun_110 : decode cX9_whyNotRun 110 = .ok (.aload_n 0, 1) := by decide +kernel
theorem dX9_whyNotRun_111 : decode cX9_whyNotRun 111 = .ok (.iload 4, 2) := by decide +kernel
theorem dX9_whyNotRun_113 : decode cX9_whyNotRun 113 = .ok (.invokevirtual 164, 3) := by decide +kernel
theorem dX9_whyNotRun_116 : decode cX9_whyNotRun 116 = .ok (.aload_n 0, 1) := by decide +kernel
theorem dX9_whyNotRun_117 : decode cX9_whyNotRun 117 = .ok (.getfield 121, 3) := by decide +kernel
theorem dX9_whyNotRun_120 : decode cX9_whyNotRun 120 = .ok (.aload_n 0, 1) := by decide +kernel
theorem dX9_whyNotRun_121 : decode cX9_whyNotRun 121 = .ok (.iload_n 1, 1) := by decide +kernel
theorem dX9_whyNotRun_122 : decode cX9_whyNotRun 122 = .ok (.invokevirtual 175, 3) := by decide +kernel
theorem dX9_whyNotRun_125 : decode cX9_whyNotRun 125 = .ok (.if_icmp .eq 6, 3) := by decide +kernel
theorem dX9_whyNotRun_128 : decode cX9_whyNotRun 128 = .ok (.bipush 11, 2) := by decide +kernel
theorem dX9_whyNotRun_130 : decode cX9_whyNotRun 130 = .ok (.ireturn, 1) := by decide +kernel
theorem dX9_whyNotRun_131 : decode cX9_whyNotRun 131 = .ok (.iinc 4 1, 3) := by decide +kernel
theorem dX9_whyNotRun_134 : decode cX9_whyNotRun 134 = .ok (.goto (-45), 3) := by decide +kernel
theorem dX9_whyNotRun_137 : decode cX9_whyNotRun 137 = .ok (.iconst 0, 1) := by decide +kernel
theorem dX9_whyNotRun_138 : decode cX9_whyNotRun 138 = .ok (.ireturn, 1) := by decide +kernel
theorem dX9_goes_0 : decode cX9_goes 0 = .ok (.aload_n 0, 1) := by decide +kernel
theorem dX9_goes_1 : decode cX9_goes 1 = .ok (.getfield 7, 3) := by decide +kernel
theorem dX9_goes_4 : decode cX9_goes 4 = .ok (.iconst 1, 1) := by decide +kernel
theorem dX9_goes_5 : decode cX9_goes 5 = .ok (.iaload, 1) := by decide +kernel
theorem dX9_goes_6 : decode cX9_goes 6 = .ok (.istore 4, 2) := by decide +kernel
theorem dX9_goes_8 : decode cX9_goes 8 = .ok (.aload_n 0, 1) := by decide +kernel
theorem dX9_goes_9 : decode cX9_goes 9 = .ok (.getfield 61, 3) := by decide +kernel
theorem dX9_goes_12 : decode cX9_goes 12 = .ok (.aload_n 0, 1) := by decide +kernel
theorem dX9_goes_13 : decode cX9_goes 13 = .ok (.getfield 137, 3) := by decide +kernel
theorem dX9_goes_16 : decode cX9_goes 16 = .ok (.iload_n 2, 1) := by decide +kernel
theorem dX9_goes_17 : decode cX9_goes 17 = .ok (.iload 4, 2) := by decide +kernel
theorem dX9_goes_19 : decode cX9_goes 19 = .ok (.iload_n 3, 1) := by decide +kernel
theorem dX9_goes_20 : decode cX9_goes 20 = .ok (.iconst 1, 1) := by decide +kernel
theorem dX9_goes_21 : decode cX9_goes 21 = .ok (.aload_n 0, 1) := by decide +kernel
theorem dX9_goes_22 : decode cX9_goes 22 = .ok (.iload_n 1, 1) := by decide +kernel
theorem dX9_goes_23 : decode cX9_goes 23 = .ok (.invokevirtual 175, 3) := by decide +kernel
theorem dX9_goes_26 : decode cX9_goes 26 = .ok (.isub, 1) := by decide +kernel
theorem dX9_goes_27 : decode cX9_goes 27 = .ok (.iload_n 1, 1) := by decide +kernel
theorem dX9_goes_28 : decode cX9_goes 28 = .ok (.invokestatic 178, 3) := by decide +kernel
theorem dX9_goes_31 : decode cX9_goes 31 = .ok (.iastore, 1) := by decide +kernel
theorem dX9_goes_32 : decode cX9_goes 32 = .ok (.aload_n 0, 1) := by decide +kernel
theorem dX9_goes_33 : decode cX9_goes 33 = .ok (.dup, 1) := by decide +kernel
theorem dX9_goes_34 : decode cX9_goes 34 = .ok (.getfield 137, 3) := by decide +kernel
theorem dX9_goes_37 : decode cX9_goes 37 = .ok (.iconst 1, 1) := by decide +kernel
theorem dX9_goes_38 : decode cX9_goes 38 = .ok (.iadd, 1) := by decide +kernel
theorem dX9_goes_39 : decode cX9_goes 39 = .ok (.putfield 137, 3) := by decide +kernel
theorem dX9_goes_42 : decode cX9_goes 42 = .ok (.aload_n 0, 1) := by decide +kernel
theorem dX9_goes_43 : decode cX9_goes 43 = .ok (.getfield 55, 3) := by decide +kernel
theorem dX9_goes_46 : decode cX9_goes 46 = .ok (.iload_n 1, 1) := by decide +kernel
theorem dX9_goes_47 : decode cX9_goes 47 = .ok (.dup2, 1) := by decide +kernel
theorem dX9_goes_48 : decode cX9_goes 48 = .ok (.iaload, 1) := by decide +kernel
theorem dX9_goes_49 : decode cX9_goes 49 = .ok (.iconst 1, 1) := by decide +kernel
theorem dX9_goes_50 : decode cX9_goes 50 = .ok (.iadd, 1) := by decide +kernel
theorem dX9_goes_51 : decode cX9_goes 51 = .ok (.iastore, 1) := by decide +kernel
theorem dX9_goes_52 : decode cX9_goes 52 = .ok (.aload_n 0, 1) := by decide +kernel
theorem dX9_goes_53 : decode cX9_goes 53 = .ok (.getfield 58, 3) := by decide +kernel
theorem dX9_goes_56 : decode cX9_goes 56 = .ok (.iload_n 1, 1) := by decide +kernel
theorem dX9_goes_57 : decode cX9_goes 57 = .ok (.iload_n 2, 1) := by decide +kernel
theorem dX9_goes_58 : decode cX9_goes 58 = .ok (.iload 4, 2) := by decide +kernel
theorem dX9_goes_60 : decode cX9_goes 60 = .ok (.iadd, 1) := by decide +kernel
theorem dX9_goes_61 : decode cX9_goes 61 = .ok (.iastore, 1) := by decide +kernel
theorem dX9_goes_62 : decode cX9_goes 62 = .ok (.iload_n 2, 1) := by decide +kernel
theorem dX9_goes_63 : decode cX9_goes 63 = .ok (.iload 4, 2) := by decide +kernel
theorem dX9_goes_65 : decode cX9_goes 65 = .ok (.iadd, 1) := by decide +kernel
theorem dX9_goes_66 : decode cX9_goes 66 = .ok (.ireturn, 1) := by decide +kernel
theorem dX9_plans_0 : decode cX9_plans 0 = .ok (.aload_n 0, 1) := by decide +kernel
theorem dX9_plans_1 : decode cX9_plans 1 = .ok (.getfield 31, 3) := by decide +kernel
theorem dX9_plans_4 : decode cX9_plans 4 = .ok (.iload_n 1, 1) := by decide +kernel
theorem dX9_plans_5 : decode cX9_plans 5 = .ok (.iconst 1, 1) := by decide +kernel
theorem dX9_plans_6 : decode cX9_plans 6 = .ok (.iastore, 1) := by decide +kernel
theorem dX9_plans_7 : decode cX9_plans 7 = .ok (.aload_n 0, 1) := by decide +kernel
theorem dX9_plans_8 : decode cX9_plans 8 = .ok (.getfield 34, 3) := by decide +kernel
theorem dX9_plans_11 : decode cX9_plans 11 = .ok (.iload_n 1, 1) := by decide +kernel
theorem dX9_plans_12 : decode cX9_plans 12 = .ok (.iload_n 2, 1) := by decide +kernel
theorem dX9_plans_13 : decode cX9_plans 13 = .ok (.iastore, 1) := by decide +kernel
theorem dX9_plans_14 : decode cX9_plans 14 = .ok (.aload_n 0, 1) := by decide +kernel
theorem dX9_plans_15 : decode cX9_plans 15 = .ok (.getfield 37, 3) := by decide +kernel
theorem dX9_plans_18 : decode cX9_plans 18 = .ok (.iload_n 1, 1) := by decide +kernel
theorem dX9_plans_19 : decode cX9_plans 19 = .ok (.iload_n 3, 1) := by decide +kernel
theorem dX9_plans_20 : decode cX9_plans 20 = .ok (.iastore, 1) := by decide +kernel
theorem dX9_plans_21 : decode cX9_plans 21 = .ok (.return_, 1) := by decide +kernel
theorem dX9_finds_0 : decode cX9_finds 0 = .ok (.aload_n 0, 1) := by decide +kernel
theorem dX9_finds_1 : decode cX9_finds 1 = .ok (.iload_n 1, 1) := by decide +kernel
theorem dX9_finds_2 : decode cX9_finds 2 = .ok (.putfield 181, 3) := by decide +kernel
theorem dX9_finds_5 : decode cX9_finds 5 = .ok (.aload_n 0, 1) := by decide +kernel
theorem dX9_finds_6 : decode cX9_finds 6 = .ok (.iload_n 2, 1) := by decide +kernel
theorem dX9_finds_7 : decode cX9_finds 7 = .ok (.putfield 184, 3) := by decide +kernel
theorem dX9_finds_10 : decode cX9_finds 10 = .ok (.aload_n 0, 1) := by decide +kernel
theorem dX9_finds_11 : decode cX9_finds 11 = .ok (.iload_n 3, 1) := by decide +kernel
theorem dX9_finds_12 : decode cX9_finds 12 = .ok (.putfield 187, 3) := by decide +kernel
theorem dX9_finds_15 : decode cX9_finds 15 = .ok (.iconst 1, 1) := by decide +kernel
theorem dX9_finds_16 : decode cX9_finds 16 = .ok (.ireturn, 1) := by decide +kernel
theorem dX9_canRide_0 : decode cX9_canRide 0 = .ok (.iload_n 3, 1) := by decide +kernel
theorem dX9_canRide_1 : decode cX9_canRide 1 = .ok (.aload_n 0, 1) := by decide +kernel
theorem dX9_canRide_2 : decode cX9_canRide 2 = .ok (.getfield 7, 3) := by decide +kernel
theorem dX9_canRide_5 : decode cX9_canRide 5 = .ok (.iconst 1, 1) := by decide +kernel
theorem dX9_canRide_6 : decode cX9_canRide 6 = .ok (.iaload, 1) := by decide +kernel
theorem dX9_canRide_7 : decode cX9_canRide 7 = .ok (.isub, 1) := by decide +kernel
theorem dX9_canRide_8 : decode cX9_canRide 8 = .ok (.istore 5, 2) := by decide +kernel
theorem dX9_canRide_10 : decode cX9_canRide 10 = .ok (.iload 5, 2) := by decide +kernel
theorem dX9_canRide_12 : decode cX9_canRide 12 = .ok (.ifCond .lt 40, 3) := by decide +kernel
theorem dX9_canRide_15 : decode cX9_canRide 15 = .ok (.aload_n 0, 1) := by decide +kernel
theorem dX9_canRide_16 : decode cX9_canRide 16 = .ok (.iload 4, 2) := by decide +kernel
theorem dX9_canRide_18 : decode cX9_canRide 18 = .ok (.iload 5, 2) := by decide +kernel
theorem dX9_canRide_20 : decode cX9_canRide 20 = .ok (.iconst 1, 1) := by decide +kernel
theorem dX9_canRide_21 : decode cX9_canRide 21 = .ok (.iload_n 2, 1) := by decide +kernel
theorem dX9_canRide_22 : decode cX9_canRide 22 = .ok (.ishl, 1) := by decide +kernel
theorem dX9_canRide_23 : decode cX9_canRide 23 = .ok (.invokevirtual 190, 3) := by decide +kernel
theorem dX9_canRide_26 : decode cX9_canRide 26 = .ok (.ifCond .ne 26, 3) := by decide +kernel
theorem dX9_canRide_29 : decode cX9_canRide 29 = .ok (.aload_n 0, 1) := by decide +kernel
theorem dX9_canRide_30 : decode cX9_canRide 30 = .ok (.iload_n 1, 1) := by decide +kernel
theorem dX9_canRide_31 : decode cX9_canRide 31 = .ok (.iload_n 2, 1) := by decide +kernel
theorem dX9_canRide_32 : decode cX9_canRide 32 = .ok (.iload_n 3, 1) := by decide +kernel
theorem dX9_canRide_33 : decode cX9_canRide 33 = .ok (.iload_n 3, 1) := by decide +kernel
theorem dX9_canRide_34 : decode cX9_canRide 34 = .ok (.iconst 1, 1) := by decide +kernel
theorem dX9_canRide_35 : decode cX9_canRide 35 = .ok (.aload_n 0, 1) := by decide +kernel
theorem dX9_canRide_36 : decode cX9_canRide 36 = .ok (.iload 4, 2) := by decide +kernel
theorem dX9_canRide_38 : decode cX9_canRide 38 = .ok (.invokevirtual 175, 3) := by decide +kernel
theorem dX9_canRide_41 : decode cX9_canRide 41 = .ok (.isub, 1) := by decide +kernel
theorem dX9_canRide_42 : decode cX9_canRide 42 = .ok (.invokevirtual 168, 3) := by decide +kernel
theorem dX9_canRide_45 : decode cX9_canRide 45 = .ok (.ifCond .ne 7, 3) := by decide +kernel
theorem dX9_canRide_48 : decode cX9_canRide 48 = .ok (.iconst 1, 1) := by decide +kernel
theorem dX9_canRide_49 : decode cX9_canRide 49 = .ok (.goto 4, 3) := by decide +kernel
theorem dX9_canRide_52 : decode cX9_canRide 52 = .ok (.iconst 0, 1) := by decide +kernel
theorem dX9_canRide_53 : decode cX9_canRide 53 = .ok (.ireturn, 1) := by decide +kernel
theorem dX9_findsAt_0 : decode cX9_findsAt 0 = .ok (.iconst 0, 1) := by decide +kernel
theorem dX9_findsAt_1 : decode cX9_findsAt 1 = .ok (.istore_n 3, 1) := by decide +kernel
theorem dX9_findsAt_2 : decode cX9_findsAt 2 = .ok (.iload_n 3, 1) := by decide +kernel
theorem dX9_findsAt_3 : decode cX9_findsAt 3 = .ok (.aload_n 0, 1) := by decide +kernel
theorem dX9_findsAt_4 : decode cX9_findsAt 4 = .ok (.getfield 94, 3) := by decide +kernel
theorem dX9_findsAt_7 : decode cX9_findsAt 7 = .ok (.if_icmp .ge 27, 3) := by decide +kernel
theorem dX9_findsAt_10 : decode cX9_findsAt 10 = .ok (.aload_n 0, 1) := by decide +kernel
theorem dX9_findsAt_11 : decode cX9_findsAt 11 = .ok (.iload_n 1, 1) := by decide +kernel
theorem dX9_findsAt_12 : decode cX9_findsAt 12 = .ok (.iload_n 3, 1) := by decide +kernel
theorem dX9_findsAt_13 : decode cX9_findsAt 13 = .ok (.iload_n 2, 1) := by decide +kernel
theorem dX9_findsAt_14 : decode cX9_findsAt 14 = .ok (.invokevirtual 194, 3) := by decide +kernel
theorem dX9_findsAt_17 : decode cX9_findsAt 17 = .ok (.ifCond .ne 11, 3) := by decide +kernel
theorem dX9_findsAt_20 : decode cX9_findsAt 20 = .ok (.aload_n 0, 1) := by decide +kernel
theorem dX9_findsAt_21 : decode cX9_findsAt 21 = .ok (.iload_n 2, 1) := by decide +kernel
theorem dX9_findsAt_22 : decode cX9_findsAt 22 = .ok (.iload_n 3, 1) := by decide +kernel
theorem dX9_findsAt_23 : decode cX9_findsAt 23 = .ok (.iconst (-1), 1) := by decide +kernel
theorem dX9_findsAt_24 : decode cX9_findsAt 24 = .ok (.invokevirtual 197, 3) := by decide +kernel
theorem dX9_findsAt_27 : decode cX9_findsAt 27 = .ok (.ireturn, 1) := by decide +kernel
theorem dX9_findsAt_28 : decode cX9_findsAt 28 = .ok (.iinc 3 1, 3) := by decide +kernel
theorem dX9_findsAt_31 : decode cX9_findsAt 31 = .ok (.goto (-29), 3) := by decide +kernel
theorem dX9_findsAt_34 : decode cX9_findsAt 34 = .ok (.iconst 0, 1) := by decide +kernel
theorem dX9_findsAt_35 : decode cX9_findsAt 35 = .ok (.istore_n 3, 1) := by decide +kernel
theorem dX9_findsAt_36 : decode cX9_findsAt 36 = .ok (.iload_n 3, 1) := by decide +kernel
theorem dX9_findsAt_37 : decode cX9_findsAt 37 = .ok (.aload_n 0, 1) := by decide +kernel
theorem dX9_findsAt_38 : decode cX9_findsAt 38 = .ok (.getfield 94, 3) := by decide +kernel
theorem dX9_findsAt_41 : decode cX9_findsAt 41 = .ok (.if_icmp .ge 48, 3) := by decide +kernel
theorem dX9_findsAt_44 : decode cX9_findsAt 44 = .ok (.iconst 0, 1) := by decide +kernel
theorem dX9_findsAt_45 : decode cX9_findsAt 45 = .ok (.istore 4, 2) := by decide +kernel
theorem dX9_findsAt_47 : decode cX9_findsAt 47 = .ok (.iload 4, 2) := by decide +kernel
theorem dX9_findsAt_49 : decode cX9_findsAt 49 = .ok (.aload_n 0, 1) := by decide +kernel
theorem dX9_findsAt_50 : decode cX9_findsAt 50 = .ok (.getfield 97, 3) := by decide +kernel
theorem dX9_findsAt_53 : decode cX9_findsAt 53 = .ok (.if_icmp .ge 30, 3) := by decide +kernel
theorem dX9_findsAt_56 : decode cX9_findsAt 56 = .ok (.aload_n 0, 1) := by decide +kernel
theorem dX9_findsAt_57 : decode cX9_findsAt 57 = .ok (.iload_n 1, 1) := by decide +kernel
theorem dX9_findsAt_58 : decode cX9_findsAt 58 = .ok (.iload_n 3, 1) := by decide +kernel
theorem dX9_findsAt_59 : decode cX9_findsAt 59 = .ok (.iload_n 2, 1) := by decide +kernel
theorem dX9_findsAt_60 : decode cX9_findsAt 60 = .ok (.iload 4, 2) := by decide +kernel
theorem dX9_findsAt_62 : decode cX9_findsAt 62 = .ok (.invokevirtual 200, 3) := by decide +kernel
theorem dX9_findsAt_65 : decode cX9_findsAt 65 = .ok (.ifCond .eq 12, 3) := by decide +kernel
theorem dX9_findsAt_68 : decode cX9_findsAt 68 = .ok (.aload_n 0, 1) := by decide +kernel
theorem dX9_findsAt_69 : decode cX9_findsAt 69 = .ok (.iload_n 2, 1) := by decide +kernel
theorem dX9_findsAt_70 : decode cX9_findsAt 70 = .ok (.iload_n 3, 1) := by decide +kernel
theorem dX9_findsAt_71 : decode cX9_findsAt 71 = .ok (.iload 4, 2) := by decide +kernel
theorem dX9_findsAt_73 : decode cX9_findsAt 73 = .ok (.invokevirtual 197, 3) := by decide +kernel
theorem dX9_findsAt_76 : decode cX9_findsAt 76 = .ok (.ireturn, 1) := by decide +kernel
theorem dX9_findsAt_77 : decode cX9_findsAt 77 = .ok (.iinc 4 1, 3) := by decide +kernel
theorem dX9_findsAt_80 : decode cX9_findsAt 80 = .ok (.goto (-33), 3) := by decide +kernel
theorem dX9_findsAt_83 : decode cX9_findsAt 83 = .ok (.iinc 3 1, 3) := by decide +kernel
theorem dX9_findsAt_86 : decode cX9_findsAt 86 = .ok (.goto (-50), 3) := by decide +kernel
theorem dX9_findsAt_89 : decode cX9_findsAt 89 = .ok (.iconst 0, 1) := by decide +kernel
theorem dX9_findsAt_90 : decode cX9_findsAt 90 = .ok (.ireturn, 1) := by decide +kernel
theorem dX9_canServe_0 : decode cX9_canServe 0 = .ok (.aload_n 0, 1) := by decide +kernel
theorem dX9_canServe_1 : decode cX9_canServe 1 = .ok (.getfield 31, 3) := by decide +kernel
theorem dX9_canServe_4 : decode cX9_canServe 4 = .ok (.iload_n 1, 1) := by decide +kernel
theorem dX9_canServe_5 : decode cX9_canServe 5 = .ok (.iaload, 1) := by decide +kernel
theorem dX9_canServe_6 : decode cX9_canServe 6 = .ok (.ifCond .eq 5, 3) := by decide +kernel
theorem dX9_canServe_9 : decode cX9_canServe 9 = .ok (.iconst 0, 1) := by decide +kernel
theorem dX9_canServe_10 : decode cX9_canServe 10 = .ok (.ireturn, 1) := by decide +kernel
theorem dX9_canServe_11 : decode cX9_canServe 11 = .ok (.aload_n 0, 1) := by decide +kernel
theorem dX9_canServe_12 : decode cX9_canServe 12 = .ok (.getfield 25, 3) := by decide +kernel
theorem dX9_canServe_15 : decode cX9_canServe 15 = .ok (.iload_n 1, 1) := by decide +kernel
theorem dX9_canServe_16 : decode cX9_canServe 16 = .ok (.iaload, 1) := by decide +kernel
theorem dX9_canServe_17 : decode cX9_canServe 17 = .ok (.aload_n 0, 1) := by decide +kernel
theorem dX9_canServe_18 : decode cX9_canServe 18 = .ok (.getfield 155, 3) := by decide +kernel
theorem dX9_canServe_21 : decode cX9_canServe 21 = .ok (.if_icmp .le 12, 3) := by decide +kernel
theorem dX9_canServe_24 : decode cX9_canServe 24 = .ok (.aload_n 0, 1) := by decide +kernel
theorem dX9_canServe_25 : decode cX9_canServe 25 = .ok (.getfield 25, 3) := by decide +kernel
theorem dX9_canServe_28 : decode cX9_canServe 28 = .ok (.iload_n 1, 1) := by decide +kernel
theorem dX9_canServe_29 : decode cX9_canServe 29 = .ok (.iaload, 1) := by decide +kernel
theorem dX9_canServe_30 : decode cX9_canServe 30 = .ok (.goto 7, 3) := by decide +kernel
theorem dX9_canServe_33 : decode cX9_canServe 33 = .ok (.aload_n 0, 1) := by decide +kernel
theorem dX9_canServe_34 : decode cX9_canServe 34 = .ok (.getfield 155, 3) := by decide +kernel
theorem dX9_canServe_37 : decode cX9_canServe 37 = .ok (.istore_n 2, 1) := by decide +kernel
theorem dX9_canServe_38 : decode cX9_canServe 38 = .ok (.iload_n 2, 1) := by decide +kernel
theorem dX9_canServe_39 : decode cX9_canServe 39 = .ok (.aload_n 0, 1) := by decide +kernel
theorem dX9_canServe_40 : decode cX9_canServe 40 = .ok (.getfield 28, 3) := by decide +kernel
theorem dX9_canServe_43 : decode cX9_canServe 43 = .ok (.iload_n 1, 1) := by decide +kernel
theorem dX9_canServe_44 : decode cX9_canServe 44 = .ok (.iaload, 1) := by decide +kernel
theorem dX9_canServe_45 : decode cX9_canServe 45 = .ok (.if_icmp .gt 29, 3) := by decide +kernel
theorem dX9_canServe_48 : decode cX9_canServe 48 = .ok (.aload_n 0, 1) := by decide +kernel
theorem dX9_canServe_49 : decode cX9_canServe 49 = .ok (.iload_n 1, 1) := by decide +kernel
theorem dX9_canServe_50 : decode cX9_canServe 50 = .ok (.iload_n 2, 1) := by decide +kernel
theorem dX9_canServe_51 : decode cX9_canServe 51 = .ok (.invokevirtual 114, 3) := by decide +kernel
theorem dX9_canServe_54 : decode cX9_canServe 54 = .ok (.ifCond .eq 14, 3) := by decide +kernel
theorem dX9_canServe_57 : decode cX9_canServe 57 = .ok (.aload_n 0, 1) := by decide +kernel
theorem dX9_canServe_58 : decode cX9_canServe 58 = .ok (.iload_n 1, 1) := by decide +kernel
theorem dX9_canServe_59 : decode cX9_canServe 59 = .ok (.iload_n 2, 1) := by decide +kernel
theorem dX9_canServe_60 : decode cX9_canServe 60 = .ok (.invokevirtual 204, 3) := by decide +kernel
theorem dX9_canServe_63 : decode cX9_canServe 63 = .ok (.ifCond .eq 5, 3) := by decide +kernel
theorem dX9_canServe_66 : decode cX9_canServe 66 = .ok (.iconst 1, 1) := by decide +kernel
theorem dX9_canServe_67 : decode cX9_canServe 67 = .ok (.ireturn, 1) := by decide +kernel
theorem dX9_canServe_68 : decode cX9_canServe 68 = .ok (.iinc 2 1, 3) := by decide +kernel
theorem dX9_canServe_71 : decode cX9_canServe 71 = .ok (.goto (-33), 3) := by decide +kernel
theorem dX9_canServe_74 : decode cX9_canServe 74 = .ok (.iconst 0, 1) := by decide +kernel
theorem dX9_canServe_75 : decode cX9_canServe 75 = .ok (.ireturn, 1) := by decide +kernel
theorem dX9_serves_0 : decode cX9_serves 0 = .ok (.aload_n 0, 1) := by decide +kernel
theorem dX9_serves_1 : decode cX9_serves 1 = .ok (.getfield 187, 3) := by decide +kernel
theorem dX9_serves_4 : decode cX9_serves 4 = .ok (.ifCond .ge 7, 3) := by decide +kernel
theorem dX9_serves_7 : decode cX9_serves 7 = .ok (.iconst 0, 1) := by decide +kernel
theorem dX9_serves_8 : decode cX9_serves 8 = .ok (.goto 28, 3) := by decide +kernel
theorem dX9_serves_11 : decode cX9_serves 11 = .ok (.aload_n 0, 1) := by decide +kernel
theorem dX9_serves_12 : decode cX9_serves 12 = .ok (.aload_n 0, 1) := by decide +kernel
theorem dX9_serves_13 : decode cX9_serves 13 = .ok (.getfield 187, 3) := by decide +kernel
theorem dX9_serves_16 : decode cX9_serves 16 = .ok (.aload_n 0, 1) := by decide +kernel
theorem dX9_serves_17 : decode cX9_serves 17 = .ok (.getfield 181, 3) := by decide +kernel
theorem dX9_serves_20 : decode cX9_serves 20 = .ok (.aload_n 0, 1) := by decide +kernel
theorem dX9_serves_21 : decode cX9_serves 21 = .ok (.getfield 7, 3) := by decide +kernel
theorem dX9_serves_24 : decode cX9_serves 24 = .ok (.iconst 1, 1) := by decide +kernel
theorem dX9_serves_25 : decode cX9_serves 25 = .ok (.iaload, 1) := by decide +kernel
theorem dX9_serves_26 : decode cX9_serves 26 = .ok (.isub, 1) := by decide +kernel
theorem dX9_serves_27 : decode cX9_serves 27 = .ok (.iconst 1, 1) := by decide +kernel
theorem dX9_serves_28 : decode cX9_serves 28 = .ok (.aload_n 0, 1) := by decide +kernel
theorem dX9_serves_29 : decode cX9_serves 29 = .ok (.getfield 184, 3) := by decide +kernel
theorem dX9_serves_32 : decode cX9_serves 32 = .ok (.ishl, 1) := by decide +kernel
theorem dX9_serves_33 : decode cX9_serves 33 = .ok (.invokevirtual 207, 3) := by decide +kernel
theorem dX9_serves_36 : decode cX9_serves 36 = .ok (.istore_n 2, 1) := by decide +kernel
theorem dX9_serves_37 : decode cX9_serves 37 = .ok (.aload_n 0, 1) := by decide +kernel
theorem dX9_serves_38 : decode cX9_serves 38 = .ok (.iload_n 1, 1) := by decide +kernel
theorem dX9_serves_39 : decode cX9_serves 39 = .ok (.aload_n 0, 1) := by decide +kernel
theorem dX9_serves_40 : decode cX9_serves 40 = .ok (.getfield 184, 3) := by decide +kernel
theorem dX9_serves_43 : decode cX9_serves 43 = .ok (.aload_n 0, 1) := by decide +kernel
theorem dX9_serves_44 : decode cX9_serves 44 = .ok (.getfield 181, 3) := by decide +kernel
theorem dX9_serves_47 : decode cX9_serves 47 = .ok (.invokevirtual 210, 3) := by decide +kernel
theorem dX9_serves_50 : decode cX9_serves 50 = .ok (.iload_n 2, 1) := by decide +kernel
theorem dX9_serves_51 : decode cX9_serves 51 = .ok (.aload_n 0, 1) := by decide +kernel
theorem dX9_serves_52 : decode cX9_serves 52 = .ok (.getfield 181, 3) := by decide +kernel
theorem dX9_serves_55 : decode cX9_serves 55 = .ok (.if_icmp .le 7, 3) := by decide +kernel
theorem dX9_serves_58 : decode cX9_serves 58 = .ok (.iload_n 2, 1) := by decide +kernel
theorem dX9_serves_59 : decode cX9_serves 59 = .ok (.goto 7, 3) := by decide +kernel
theorem dX9_serves_62 : decode cX9_serves 62 = .ok (.aload_n 0, 1) := by decide +kernel
theorem dX9_serves_63 : decode cX9_serves 63 = .ok (.getfield 181, 3) := by decide +kernel
theorem dX9_serves_66 : decode cX9_serves 66 = .ok (.ireturn, 1) := by decide +kernel
theorem dX9_rule_0 : decode cX9_rule 0 = .ok (.iload_n 1, 1) := by decide +kernel
theorem dX9_rule_1 : decode cX9_rule 1 = .ok (.iconst 0, 1) := by decide +kernel
theorem dX9_rule_2 : decode cX9_rule 2 = .ok (.iconst 4, 1) := by decide +kernel
theorem dX9_rule_3 : decode cX9_rule 3 = .ok (.invokestatic 90, 3) := by decide +kernel
theorem dX9_rule_6 : decode cX9_rule 6 = .ok (.ifCond .eq 20, 3) := by decide +kernel
theorem dX9_rule_9 : decode cX9_rule 9 = .ok (.iload_n 2, 1) := by decide +kernel
theorem dX9_rule_10 : decode cX9_rule 10 = .ok (.getstatic 214, 3) := by decide +kernel
theorem dX9_rule_13 : decode cX9_rule 13 = .ok (.iload_n 1, 1) := by decide +kernel
theorem dX9_rule_14 : decode cX9_rule 14 = .ok (.iaload, 1) := by decide +kernel
theorem dX9_rule_15 : decode cX9_rule 15 = .ok (.getstatic 217, 3) := by decide +kernel
theorem dX9_rule_18 : decode cX9_rule 18 = .ok (.iload_n 1, 1) := by decide +kernel
theorem dX9_rule_19 : decode cX9_rule 19 = .ok (.iaload, 1) := by decide +kernel
theorem dX9_rule_20 : decode cX9_rule 20 = .ok (.invokestatic 90, 3) := by decide +kernel
theorem dX9_rule_23 : decode cX9_rule 23 = .ok (.ifCond .ne 9, 3) := by decide +kernel
theorem dX9_rule_26 : decode cX9_rule 26 = .ok (.aload_n 0, 1) := by decide +kernel
theorem dX9_rule_27 : decode cX9_rule 27 = .ok (.iconst 1, 1) := by decide +kernel
theorem dX9_rule_28 : decode cX9_rule 28 = .ok (.invokevirtual 220, 3) := by decide +kernel
theorem dX9_rule_31 : decode cX9_rule 31 = .ok (.ireturn, 1) := by decide +kernel
theorem dX9_rule_32 : decode cX9_rule 32 = .ok (.aload_n 0, 1) := by decide +kernel
theorem dX9_rule_33 : decode cX9_rule 33 = .ok (.iconst 0, 1) := by decide +kernel
theorem dX9_rule_34 : decode cX9_rule 34 = .ok (.putfield 87, 3) := by decide +kernel
theorem dX9_rule_37 : decode cX9_rule 37 = .ok (.aload_n 0, 1) := by decide +kernel
theorem dX9_rule_38 : decode cX9_rule 38 = .ok (.invokevirtual 223, 3) := by decide +kernel
theorem dX9_rule_41 : decode cX9_rule 41 = .ok (.aload_n 0, 1) := by decide +kernel
theorem dX9_rule_42 : decode cX9_rule 42 = .ok (.getfield 7, 3) := by decide +kernel
theorem dX9_rule_45 : decode cX9_rule 45 = .ok (.iload_n 1, 1) := by decide +kernel
theorem dX9_rule_46 : decode cX9_rule 46 = .ok (.iaload, 1) := by decide +kernel
theorem dX9_rule_47 : decode cX9_rule 47 = .ok (.istore_n 3, 1) := by decide +kernel
theorem dX9_rule_48 : decode cX9_rule 48 = .ok (.aload_n 0, 1) := by decide +kernel
theorem dX9_rule_49 : decode cX9_rule 49 = .ok (.getfield 7, 3) := by decide +kernel
theorem dX9_rule_52 : decode cX9_rule 52 = .ok (.iload_n 1, 1) := by decide +kernel
theorem dX9_rule_53 : decode cX9_rule 53 = .ok (.iload_n 2, 1) := by decide +kernel
theorem dX9_rule_54 : decode cX9_rule 54 = .ok (.iastore, 1) := by decide +kernel
theorem dX9_rule_55 : decode cX9_rule 55 = .ok (.iload_n 3, 1) := by decide +kernel
theorem dX9_rule_56 : decode cX9_rule 56 = .ok (.ireturn, 1) := by decide +kernel
theorem dX9_tide_0 : decode cX9_tide 0 = .ok (.iload_n 1, 1) := by decide +kernel
theorem dX9_tide_1 : decode cX9_tide 1 = .ok (.iconst 0, 1) := by decide +kernel
theorem dX9_tide_2 : decode cX9_tide 2 = .ok (.bipush 11, 2) := by decide +kernel
theorem dX9_tide_4 : decode cX9_tide 4 = .ok (.invokestatic 90, 3) := by decide +kernel
theorem dX9_tide_7 : decode cX9_tide 7 = .ok (.ifCond .eq 13, 3) := by decide +kernel
theorem dX9_tide_10 : decode cX9_tide 10 = .ok (.iload_n 2, 1) := by decide +kernel
theorem dX9_tide_11 : decode cX9_tide 11 = .ok (.iconst 0, 1) := by decide +kernel
theorem dX9_tide_12 : decode cX9_tide 12 = .ok (.bipush 9, 2) := by decide +kernel
theorem dX9_tide_14 : decode cX9_tide 14 = .ok (.invokestatic 90, 3) := by decide +kernel
theorem dX9_tide_17 : decode cX9_tide 17 = .ok (.ifCond .ne 9, 3) := by decide +kernel
theorem dX9_tide_20 : decode cX9_tide 20 = .ok (.aload_n 0, 1) := by decide +kernel
theorem dX9_tide_21 : decode cX9_tide 21 = .ok (.iconst 1, 1) := by decide +kernel
theorem dX9_tide_22 : decode cX9_tide 22 = .ok (.invokevirtual 220, 3) := by decide +kernel
theorem dX9_tide_25 : decode cX9_tide 25 = .ok (.ireturn, 1) := by decide +kernel
theorem dX9_tide_26 : decode cX9_tide 26 = .ok (.aload_n 0, 1) := by decide +kernel
theorem dX9_tide_27 : decode cX9_tide 27 = .ok (.iconst 0, 1) := by decide +kernel
theorem dX9_tide_28 : decode cX9_tide 28 = .ok (.putfield 87, 3) := by decide +kernel
theorem dX9_tide_31 : decode cX9_tide 31 = .ok (.aload_n 0, 1) := by decide +kernel
theorem dX9_tide_32 : decode cX9_tide 32 = .ok (.invokevirtual 223, 3) := by decide +kernel
theorem dX9_tide_35 : decode cX9_tide 35 = .ok (.aload_n 0, 1) := by decide +kernel
theorem dX9_tide_36 : decode cX9_tide 36 = .ok (.getfield 13, 3) := by decide +kernel
theorem dX9_tide_39 : decode cX9_tide 39 = .ok (.iload_n 1, 1) := by decide +kernel
theorem dX9_tide_40 : decode cX9_tide 40 = .ok (.iaload, 1) := by decide +kernel
theorem dX9_tide_41 : decode cX9_tide 41 = .ok (.istore_n 3, 1) := by decide +kernel
theorem dX9_tide_42 : decode cX9_tide 42 = .ok (.aload_n 0, 1) := by decide +kernel
theorem dX9_tide_43 : decode cX9_tide 43 = .ok (.getfield 13, 3) := by decide +kernel
theorem dX9_tide_46 : decode cX9_tide 46 = .ok (.iload_n 1, 1) := by decide +kernel
theorem dX9_tide_47 : decode cX9_tide 47 = .ok (.iload_n 2, 1) := by decide +kernel
theorem dX9_tide_48 : decode cX9_tide 48 = .ok (.iastore, 1) := by decide +kernel
theorem dX9_tide_49 : decode cX9_tide 49 = .ok (.iload_n 3, 1) := by decide +kernel
theorem dX9_tide_50 : decode cX9_tide 50 = .ok (.ireturn, 1) := by decide +kernel
theorem dX9_depth_0 : decode cX9_depth 0 = .ok (.iload_n 1, 1) := by decide +kernel
theorem dX9_depth_1 : decode cX9_depth 1 = .ok (.invokestatic 226, 3) := by decide +kernel
theorem dX9_depth_4 : decode cX9_depth 4 = .ok (.ifCond .ne 9, 3) := by decide +kernel
theorem dX9_depth_7 : decode cX9_depth 7 = .ok (.aload_n 0, 1) := by decide +kernel
theorem dX9_depth_8 : decode cX9_depth 8 = .ok (.iconst 1, 1) := by decide +kernel
theorem dX9_depth_9 : decode cX9_depth 9 = .ok (.invokevirtual 220, 3) := by decide +kernel
theorem dX9_depth_12 : decode cX9_depth 12 = .ok (.ireturn, 1) := by decide +kernel
theorem dX9_depth_13 : decode cX9_depth 13 = .ok (.aload_n 0, 1) := by decide +kernel
theorem dX9_depth_14 : decode cX9_depth 14 = .ok (.iconst 0, 1) := by decide +kernel
theorem dX9_depth_15 : decode cX9_depth 15 = .ok (.putfield 87, 3) := by decide +kernel
theorem dX9_depth_18 : decode cX9_depth 18 = .ok (.aload_n 0, 1) := by decide +kernel
theorem dX9_depth_19 : decode cX9_depth 19 = .ok (.iload_n 1, 1) := by decide +kernel
theorem dX9_depth_20 : decode cX9_depth 20 = .ok (.invokevirtual 111, 3) := by decide +kernel
theorem dX9_depth_23 : decode cX9_depth 23 = .ok (.ireturn, 1) := by decide +kernel
theorem dX9_addPilot_0 : decode cX9_addPilot 0 = .ok (.iload_n 1, 1) := by decide +kernel
theorem dX9_addPilot_1 : decode cX9_addPilot 1 = .ok (.iconst 1, 1) := by decide +kernel
theorem dX9_addPilot_2 : decode cX9_addPilot 2 = .ok (.iconst 4, 1) := by decide +kernel
theorem dX9_addPilot_3 : decode cX9_addPilot 3 = .ok (.invokestatic 90, 3) := by decide +kernel
theorem dX9_addPilot_6 : decode cX9_addPilot 6 = .ok (.ifCond .ne 9, 3) := by decide +kernel
theorem dX9_addPilot_9 : decode cX9_addPilot 9 = .ok (.aload_n 0, 1) := by decide +kernel
theorem dX9_addPilot_10 : decode cX9_addPilot 10 = .ok (.iconst 1, 1) := by decide +kernel
theorem dX9_addPilot_11 : decode cX9_addPilot 11 = .ok (.invokevirtual 220, 3) := by decide +kernel
theorem dX9_addPilot_14 : decode cX9_addPilot 14 = .ok (.ireturn, 1) := by decide +kernel
theorem dX9_addPilot_15 : decode cX9_addPilot 15 = .ok (.aload_n 0, 1) := by decide +kernel
theorem dX9_addPilot_16 : decode cX9_addPilot 16 = .ok (.getfield 94, 3) := by decide +kernel
theorem dX9_addPilot_19 : decode cX9_addPilot 19 = .ok (.bipush 6, 2) := by decide +kernel
theorem dX9_addPilot_21 : decode cX9_addPilot 21 = .ok (.if_icmp .ne 9, 3) := by decide +kernel
theorem dX9_addPilot_24 : decode cX9_addPilot 24 = .ok (.aload_n 0, 1) := by decide +kernel
theorem dX9_addPilot_25 : decode cX9_addPilot 25 = .ok (.iconst 2, 1) := by decide +kernel
theorem dX9_addPilot_26 : decode cX9_addPilot 26 = .ok (.invokevirtual 220, 3) := by decide +kernel
theorem dX9_addPilot_29 : decode cX9_addPilot 29 = .ok (.ireturn, 1) := by decide +kernel
theorem dX9_addPilot_30 : decode cX9_addPilot 30 = .ok (.aload_n 0, 1) := by decide +kernel
theorem dX9_addPilot_31 : decode cX9_addPilot 31 = .ok (.iconst 0, 1) := by decide +kernel
theorem dX9_addPilot_32 : decode cX9_addPilot 32 = .ok (.putfield 87, 3) := by decide +kernel
theorem dX9_addPilot_35 : decode cX9_addPilot 35 = .ok (.aload_n 0, 1) := by decide +kernel
theorem dX9_addPilot_36 : decode cX9_addPilot 36 = .ok (.invokevirtual 223, 3) := by decide +kernel
theorem dX9_addPilot_39 : decode cX9_addPilot 39 = .ok (.aload_n 0, 1) := by decide +kernel
theorem dX9_addPilot_40 : decode cX9_addPilot 40 = .ok (.getfield 94, 3) := by decide +kernel
theorem dX9_addPilot_43 : decode cX9_addPilot 43 = .ok (.istore_n 2, 1) := by decide +kernel
theorem dX9_addPilot_44 : decode cX9_addPilot 44 = .ok (.aload_n 0, 1) := by decide +kernel
theorem dX9_addPilot_45 : decode cX9_addPilot 45 = .ok (.getfield 43, 3) := by decide +kernel
theorem dX9_addPilot_48 : decode cX9_addPilot 48 = .ok (.iload_n 2, 1) := by decide +kernel
theorem dX9_addPilot_49 : decode cX9_addPilot 49 = .ok (.iload_n 1, 1) := by decide +kernel
theorem dX9_addPilot_50 : decode cX9_addPilot 50 = .ok (.iastore, 1) := by decide +kernel
theorem dX9_addPilot_51 : decode cX9_addPilot 51 = .ok (.aload_n 0, 1) := by decide +kernel
theorem dX9_addPilot_52 : decode cX9_addPilot 52 = .ok (.getfield 46, 3) := by decide +kernel
theorem dX9_addPilot_55 : decode cX9_addPilot 55 = .ok (.iload_n 2, 1) := by decide +kernel
theorem dX9_addPilot_56 : decode cX9_addPilot 56 = .ok (.iconst 0, 1) := by decide +kernel
theorem dX9_addPilot_57 : decode cX9_addPilot 57 = .ok (.iastore, 1) := by decide +kernel
theorem dX9_addPilot_58 : decode cX9_addPilot 58 = .ok (.aload_n 0, 1) := by decide +kernel
theorem dX9_addPilot_59 : decode cX9_addPilot 59 = .ok (.getfield 49, 3) := by decide +kernel
theorem dX9_addPilot_62 : decode cX9_addPilot 62 = .ok (.iload_n 2, 1) := by decide +kernel
theorem dX9_addPilot_63 : decode cX9_addPilot 63 = .ok (.iconst 0, 1) := by decide +kernel
theorem dX9_addPilot_64 : decode cX9_addPilot 64 = .ok (.iastore, 1) := by decide +kernel
theorem dX9_addPilot_65 : decode cX9_addPilot 65 = .ok (.aload_n 0, 1) := by decide +kernel
theorem dX9_addPilot_66 : decode cX9_addPilot 66 = .ok (.dup, 1) := by decide +kernel
theorem dX9_addPilot_67 : decode cX9_addPilot 67 = .ok (.getfield 94, 3) := by decide +kernel
theorem dX9_addPilot_70 : decode cX9_addPilot 70 = .ok (.iconst 1, 1) := by decide +kernel
theorem dX9_addPilot_71 : decode cX9_addPilot 71 = .ok (.iadd, 1) := by decide +kernel
theorem dX9_addPilot_72 : decode cX9_addPilot 72 = .ok (.putfield 94, 3) := by decide +kernel
theorem dX9_addPilot_75 : decode cX9_addPilot 75 = .ok (.iload_n 2, 1) := by decide +kernel
theorem dX9_addPilot_76 : decode cX9_addPilot 76 = .ok (.ireturn, 1) := by decide +kernel
theorem dX9_addBoat_0 : decode cX9_addBoat 0 = .ok (.iload_n 1, 1) := by decide +kernel
theorem dX9_addBoat_1 : decode cX9_addBoat 1 = .ok (.iconst 1, 1) := by decide +kernel
theorem dX9_addBoat_2 : decode cX9_addBoat 2 = .ok (.iconst 4, 1) := by decide +kernel
theorem dX9_addBoat_3 : decode cX9_addBoat 3 = .ok (.invokestatic 90, 3) := by decide +kernel
theorem dX9_addBoat_6 : decode cX9_addBoat 6 = .ok (.ifCond .ne 9, 3) := by decide +kernel
theorem dX9_addBoat_9 : decode cX9_addBoat 9 = .ok (.aload_n 0, 1) := by decide +kernel
theorem dX9_addBoat_10 : decode cX9_addBoat 10 = .ok (.iconst 1, 1) := by decide +kernel
theorem dX9_addBoat_11 : decode cX9_addBoat 11 = .ok (.invokevirtual 220, 3) := by decide +kernel
theorem dX9_addBoat_14 : decode cX9_addBoat 14 = .ok (.ireturn, 1) := by decide +kernel
theorem dX9_addBoat_15 : decode cX9_addBoat 15 = .ok (.aload_n 0, 1) := by decide +kernel
theorem dX9_addBoat_16 : decode cX9_addBoat 16 = .ok (.getfield 97, 3) := by decide +kernel
theorem dX9_addBoat_19 : decode cX9_addBoat 19 = .ok (.iconst 3, 1) := by decide +kernel
theorem dX9_addBoat_20 : decode cX9_addBoat 20 = .ok (.if_icmp .ne 9, 3) := by decide +kernel
theorem dX9_addBoat_23 : decode cX9_addBoat 23 = .ok (.aload_n 0, 1) := by decide +kernel
theorem dX9_addBoat_24 : decode cX9_addBoat 24 = .ok (.iconst 2, 1) := by decide +kernel
theorem dX9_addBoat_25 : decode cX9_addBoat 25 = .ok (.invokevirtual 220, 3) := by decide +kernel
theorem dX9_addBoat_28 : decode cX9_addBoat 28 = .ok (.ireturn, 1) := by decide +kernel
theorem dX9_addBoat_29 : decode cX9_addBoat 29 = .ok (.aload_n 0, 1) := by decide +kernel
theorem dX9_addBoat_30 : decode cX9_addBoat 30 = .ok (.iconst 0, 1) := by decide +kernel
theorem dX9_addBoat_31 : decode cX9_addBoat 31 = .ok (.putfield 87, 3) := by decide +kernel
theorem dX9_addBoat_34 : decode cX9_addBoat 34 = .ok (.aload_n 0, 1) := by decide +kernel
theorem dX9_addBoat_35 : decode cX9_addBoat 35 = .ok (.invokevirtual 223, 3) := by decide +kernel
theorem dX9_addBoat_38 : decode cX9_addBoat 38 = .ok (.aload_n 0, 1) := by decide +kernel
theorem dX9_addBoat_39 : decode cX9_addBoat 39 = .ok (.getfield 97, 3) := by decide +kernel
theorem dX9_addBoat_42 : decode cX9_addBoat 42 = .ok (.istore_n 2, 1) := by decide +kernel
theorem dX9_addBoat_43 : decode cX9_addBoat 43 = .ok (.aload_n 0, 1) := by decide +kernel
theorem dX9_addBoat_44 : decode cX9_addBoat 44 = .ok (.getfield 52, 3) := by decide +kernel
theorem dX9_addBoat_47 : decode cX9_addBoat 47 = .ok (.iload_n 2, 1) := by decide +kernel
theorem dX9_addBoat_48 : decode cX9_addBoat 48 = .ok (.iload_n 1, 1) := by decide +kernel
theorem dX9_addBoat_49 : decode cX9_addBoat 49 = .ok (.iastore, 1) := by decide +kernel
theorem dX9_addBoat_50 : decode cX9_addBoat 50 = .ok (.aload_n 0, 1) := by decide +kernel
theorem dX9_addBoat_51 : decode cX9_addBoat 51 = .ok (.getfield 55, 3) := by decide +kernel
theorem dX9_addBoat_54 : decode cX9_addBoat 54 = .ok (.iload_n 2, 1) := by decide +kernel
theorem dX9_addBoat_55 : decode cX9_addBoat 55 = .ok (.iconst 0, 1) := by decide +kernel
theorem dX9_addBoat_56 : decode cX9_addBoat 56 = .ok (.iastore, 1) := by decide +kernel
theorem dX9_addBoat_57 : decode cX9_addBoat 57 = .ok (.aload_n 0, 1) := by decide +kernel
theorem dX9_addBoat_58 : decode cX9_addBoat 58 = .ok (.getfield 58, 3) := by decide +kernel
theorem dX9_addBoat_61 : decode cX9_addBoat 61 = .ok (.iload_n 2, 1) := by decide +kernel
theorem dX9_addBoat_62 : decode cX9_addBoat 62 = .ok (.iconst 0, 1) := by decide +kernel
theorem dX9_addBoat_63 : decode cX9_addBoat 63 = .ok (.iastore, 1) := by decide +kernel
theorem dX9_addBoat_64 : decode cX9_addBoat 64 = .ok (.aload_n 0, 1) := by decide +kernel
theorem dX9_addBoat_65 : decode cX9_addBoat 65 = .ok (.dup, 1) := by decide +kernel
theorem dX9_addBoat_66 : decode cX9_addBoat 66 = .ok (.getfield 97, 3) := by decide +kernel
theorem dX9_addBoat_69 : decode cX9_addBoat 69 = .ok (.iconst 1, 1) := by decide +kernel
theorem dX9_addBoat_70 : decode cX9_addBoat 70 = .ok (.iadd, 1) := by decide +kernel
theorem dX9_addBoat_71 : decode cX9_addBoat 71 = .ok (.putfield 97, 3) := by decide +kernel
theorem dX9_addBoat_74 : decode cX9_addBoat 74 = .ok (.iload_n 2, 1) := by decide +kernel
theorem dX9_addBoat_75 : decode cX9_addBoat 75 = .ok (.ireturn, 1) := by decide +kernel
theorem dX9_order_0 : decode cX9_order 0 = .ok (.iload_n 1, 1) := by decide +kernel
theorem dX9_order_1 : decode cX9_order 1 = .ok (.iconst 1, 1) := by decide +kernel
theorem dX9_order_2 : decode cX9_order 2 = .ok (.iconst 4, 1) := by decide +kernel
theorem dX9_order_3 : decode cX9_order 3 = .ok (.invokestatic 90, 3) := by decide +kernel
theorem dX9_order_6 : decode cX9_order 6 = .ok (.ifCond .eq 37, 3) := by decide +kernel
theorem dX9_order_9 : decode cX9_order 9 = .ok (.iload_n 3, 1) := by decide +kernel
theorem dX9_order_10 : decode cX9_order 10 = .ok (.iconst 1, 1) := by decide +kernel
theorem dX9_order_11 : decode cX9_order 11 = .ok (.bipush 30, 2) := by decide +kernel
theorem dX9_order_13 : decode cX9_order 13 = .ok (.invokestatic 90, 3) := by decide +kernel
theorem dX9_order_16 : decode cX9_order 16 = .ok (.ifCond .eq 27, 3) := by decide +kernel
theorem dX9_order_19 : decode cX9_order 19 = .ok (.iload 4, 2) := by decide +kernel
theorem dX9_order_21 : decode cX9_order 21 = .ok (.aload_n 0, 1) := by decide +kernel
theorem dX9_order_22 : decode cX9_order 22 = .ok (.getfield 155, 3) := by decide +kernel
theorem dX9_order_25 : decode cX9_order 25 = .ok (.if_icmp .lt 18, 3) := by decide +kernel
theorem dX9_order_28 : decode cX9_order 28 = .ok (.iload 5, 2) := by decide +kernel
theorem dX9_order_30 : decode cX9_order 30 = .ok (.iload 4, 2) := by decide +kernel
theorem dX9_order_32 : decode cX9_order 32 = .ok (.if_icmp .lt 11, 3) := by decide +kernel
theorem dX9_order_35 : decode cX9_order 35 = .ok (.iload 5, 2) := by decide +kernel
theorem dX9_order_37 : decode cX9_order 37 = .ok (.sipush 900, 3) := by decide +kernel
theorem dX9_order_40 : decode cX9_order 40 = .ok (.if_icmp .le 9, 3) := by decide +kernel
theorem dX9_order_43 : decode cX9_order 43 = .ok (.aload_n 0, 1) := by decide +kernel
theorem dX9_order_44 : decode cX9_order 44 = .ok (.iconst 1, 1) := by decide +kernel
theorem dX9_order_45 : decode cX9_order 45 = .ok (.invokevirtual 220, 3) := by decide +kernel
theorem dX9_order_48 : decode cX9_order 48 = .ok (.ireturn, 1) := by decide +kernel
theorem dX9_order_49 : decode cX9_order 49 = .ok (.aload_n 0, 1) := by decide +kernel
theorem dX9_order_50 : decode cX9_order 50 = .ok (.getfield 100, 3) := by decide +kernel
theorem dX9_order_53 : decode cX9_order 53 = .ok (.bipush 16, 2) := by decide +kernel
theorem dX9_order_55 : decode cX9_order 55 = .ok (.if_icmp .ne 9, 3) := by decide +kernel
theorem dX9_order_58 : decode cX9_order 58 = .ok (.aload_n 0, 1) := by decide +kernel
theorem dX9_order_59 : decode cX9_order 59 = .ok (.iconst 2, 1) := by decide +kernel
theorem dX9_order_60 : decode cX9_order 60 = .ok (.invokevirtual 220, 3) := by decide +kernel
theorem dX9_order_63 : decode cX9_order 63 = .ok (.ireturn, 1) := by decide +kernel
theorem dX9_order_64 : decode cX9_order 64 = .ok (.aload_n 0, 1) := by decide +kernel
theorem dX9_order_65 : decode cX9_order 65 = .ok (.iconst 0, 1) := by decide +kernel
theorem dX9_order_66 : decode cX9_order 66 = .ok (.putfield 87, 3) := by decide +kernel
theorem dX9_order_69 : decode cX9_order 69 = .ok (.aload_n 0, 1) := by decide +kernel
theorem dX9_order_70 : decode cX9_order 70 = .ok (.invokevirtual 223, 3) := by decide +kernel
theorem dX9_order_73 : decode cX9_order 73 = .ok (.aload_n 0, 1) := by decide +kernel
theorem dX9_order_74 : decode cX9_order 74 = .ok (.getfield 100, 3) := by decide +kernel
theorem dX9_order_77 : decode cX9_order 77 = .ok (.istore 6, 2) := by decide +kernel
theorem dX9_order_79 : decode cX9_order 79 = .ok (.aload_n 0, 1) := by decide +kernel
theorem dX9_order_80 : decode cX9_order 80 = .ok (.getfield 16, 3) := by decide +kernel
theorem dX9_order_83 : decode cX9_order 83 = .ok (.iload 6, 2) := by decide +kernel
theorem dX9_order_85 : decode cX9_order 85 = .ok (.iload_n 1, 1) := by decide +kernel
theorem dX9_order_86 : decode cX9_order 86 = .ok (.iastore, 1) := by decide +kernel
theorem dX9_order_87 : decode cX9_order 87 = .ok (.aload_n 0, 1) := by decide +kernel
theorem dX9_order_88 : decode cX9_order 88 = .ok (.getfield 19, 3) := by decide +kernel
theorem dX9_order_91 : decode cX9_order 91 = .ok (.iload 6, 2) := by decide +kernel
theorem dX9_order_93 : decode cX9_order 93 = .ok (.iload_n 2, 1) := by decide +kernel
theorem dX9_order_94 : decode cX9_order 94 = .ok (.ifCond .eq 7, 3) := by decide +kernel
theorem dX9_order_97 : decode cX9_order 97 = .ok (.iconst 1, 1) := by decide +kernel
theorem dX9_order_98 : decode cX9_order 98 = .ok (.goto 4, 3) := by decide +kernel
theorem dX9_order_101 : decode cX9_order 101 = .ok (.iconst 0, 1) := by decide +kernel
theorem dX9_order_102 : decode cX9_order 102 = .ok (.iastore, 1) := by decide +kernel
theorem dX9_order_103 : decode cX9_order 103 = .ok (.aload_n 0, 1) := by decide +kernel
theorem dX9_order_104 : decode cX9_order 104 = .ok (.getfield 22, 3) := by decide +kernel
theorem dX9_order_107 : decode cX9_order 107 = .ok (.iload 6, 2) := by decide +kernel
theorem dX9_order_109 : decode cX9_order 109 = .ok (.iload_n 3, 1) := by decide +kernel
theorem dX9_order_110 : decode cX9_order 110 = .ok (.iastore, 1) := by decide +kernel
theorem dX9_order_111 : decode cX9_order 111 = .ok (.aload_n 0, 1) := by decide +kernel
theorem dX9_order_112 : decode cX9_order 112 = .ok (.getfield 25, 3) := by decide +kernel
theorem dX9_order_115 : decode cX9_order 115 = .ok (.iload 6, 2) := by decide +kernel
theorem dX9_order_117 : decode cX9_order 117 = .ok (.iload 4, 2) := by decide +kernel
theorem dX9_order_119 : decode cX9_order 119 = .ok (.iastore, 1) := by decide +kernel
theorem dX9_order_120 : decode cX9_order 120 = .ok (.aload_n 0, 1) := by decide +kernel
theorem dX9_order_121 : decode cX9_order 121 = .ok (.getfield 28, 3) := by decide +kernel
theorem dX9_order_124 : decode cX9_order 124 = .ok (.iload 6, 2) := by decide +kernel
theorem dX9_order_126 : decode cX9_order 126 = .ok (.iload 5, 2) := by decide +kernel
theorem dX9_order_128 : decode cX9_order 128 = .ok (.iastore, 1) := by decide +kernel
theorem dX9_order_129 : decode cX9_order 129 = .ok (.aload_n 0, 1) := by decide +kernel
theorem dX9_order_130 : decode cX9_order 130 = .ok (.getfield 31, 3) := by decide +kernel
theorem dX9_order_133 : decode cX9_order 133 = .ok (.iload 6, 2) := by decide +kernel
theorem dX9_order_135 : decode cX9_order 135 = .ok (.iconst 0, 1) := by decide +kernel
theorem dX9_order_136 : decode cX9_order 136 = .ok (.iastore, 1) := by decide +kernel
theorem dX9_order_137 : decode cX9_order 137 = .ok (.aload_n 0, 1) := by decide +kernel
theorem dX9_order_138 : decode cX9_order 138 = .ok (.getfield 40, 3) := by decide +kernel
theorem dX9_order_141 : decode cX9_order 141 = .ok (.iload 6, 2) := by decide +kernel
theorem dX9_order_143 : decode cX9_order 143 = .ok (.iconst 0, 1) := by decide +kernel
theorem dX9_order_144 : decode cX9_order 144 = .ok (.iastore, 1) := by decide +kernel
theorem dX9_order_145 : decode cX9_order 145 = .ok (.aload_n 0, 1) := by decide +kernel
theorem dX9_order_146 : decode cX9_order 146 = .ok (.dup, 1) := by decide +kernel
theorem dX9_order_147 : decode cX9_order 147 = .ok (.getfield 100, 3) := by decide +kernel
theorem dX9_order_150 : decode cX9_order 150 = .ok (.iconst 1, 1) := by decide +kernel
theorem dX9_order_151 : decode cX9_order 151 = .ok (.iadd, 1) := by decide +kernel
theorem dX9_order_152 : decode cX9_order 152 = .ok (.putfield 100, 3) := by decide +kernel
theorem dX9_order_155 : decode cX9_order 155 = .ok (.iload 6, 2) := by decide +kernel
theorem dX9_order_157 : decode cX9_order 157 = .ok (.ireturn, 1) := by decide +kernel
theorem dX9_windowHours_0 : decode cX9_windowHours 0 = .ok (.iconst 0, 1) := by decide +kernel
theorem dX9_windowHours_1 : decode cX9_windowHours 1 = .ok (.istore_n 2, 1) := by decide +kernel
theorem dX9_windowHours_2 : decode cX9_windowHours 2 = .ok (.aload_n 0, 1) := by decide +kernel
theorem dX9_windowHours_3 : decode cX9_windowHours 3 = .ok (.getfield 25, 3) := by decide +kernel
theorem dX9_windowHours_6 : decode cX9_windowHours 6 = .ok (.iload_n 1, 1) := by decide +kernel
theorem dX9_windowHours_7 : decode cX9_windowHours 7 = .ok (.iaload, 1) := by decide +kernel
theorem dX9_windowHours_8 : decode cX9_windowHours 8 = .ok (.istore_n 3, 1) := by decide +kernel
theorem dX9_windowHours_9 : decode cX9_windowHours 9 = .ok (.iload_n 3, 1) := by decide +kernel
theorem dX9_windowHours_10 : decode cX9_windowHours 10 = .ok (.aload_n 0, 1) := by decide +kernel
theorem dX9_windowHours_11 : decode cX9_windowHours 11 = .ok (.getfield 28, 3) := by decide +kernel
theorem dX9_windowHours_14 : decode cX9_windowHours 14 = .ok (.iload_n 1, 1) := by decide +kernel
theorem dX9_windowHours_15 : decode cX9_windowHours 15 = .ok (.iaload, 1) := by decide +kernel
theorem dX9_windowHours_16 : decode cX9_windowHours 16 = .ok (.if_icmp .gt 26, 3) := by decide +kernel
theorem dX9_windowHours_19 : decode cX9_windowHours 19 = .ok (.iload_n 2, 1) := by decide +kernel
theorem dX9_windowHours_20 : decode cX9_windowHours 20 = .ok (.aload_n 0, 1) := by decide +kernel
theorem dX9_windowHours_21 : decode cX9_windowHours 21 = .ok (.iload_n 1, 1) := by decide +kernel
theorem dX9_windowHours_22 : decode cX9_windowHours 22 = .ok (.iload_n 3, 1) := by decide +kernel
theorem dX9_windowHours_23 : decode cX9_windowHours 23 = .ok (.invokevirtual 114, 3) := by decide +kernel
theorem dX9_windowHours_26 : decode cX9_windowHours 26 = .ok (.ifCond .eq 7, 3) := by decide +kernel
theorem dX9_windowHours_29 : decode cX9_windowHours 29 = .ok (.iconst 1, 1) := by decide +kernel
theorem dX9_windowHours_30 : decode cX9_windowHours 30 = .ok (.goto 4, 3) := by decide +kernel
theorem dX9_windowHours_33 : decode cX9_windowHours 33 = .ok (.iconst 0, 1) := by decide +kernel
theorem dX9_windowHours_34 : decode cX9_windowHours 34 = .ok (.iadd, 1) := by decide +kernel
theorem dX9_windowHours_35 : decode cX9_windowHours 35 = .ok (.istore_n 2, 1) := by decide +kernel
theorem dX9_windowHours_36 : decode cX9_windowHours 36 = .ok (.iinc 3 1, 3) := by decide +kernel
theorem dX9_windowHours_39 : decode cX9_windowHours 39 = .ok (.goto (-30), 3) := by decide +kernel
theorem dX9_windowHours_42 : decode cX9_windowHours 42 = .ok (.iload_n 2, 1) := by decide +kernel
theorem dX9_windowHours_43 : decode cX9_windowHours 43 = .ok (.ireturn, 1) := by decide +kernel
theorem dX9_orderOf_0 : decode cX9_orderOf 0 = .ok (.aload_n 0, 1) := by decide +kernel
theorem dX9_orderOf_1 : decode cX9_orderOf 1 = .ok (.iload_n 1, 1) := by decide +kernel
theorem dX9_orderOf_2 : decode cX9_orderOf 2 = .ok (.invokevirtual 229, 3) := by decide +kernel
theorem dX9_orderOf_5 : decode cX9_orderOf 5 = .ok (.ifCond .ne 9, 3) := by decide +kernel
theorem dX9_orderOf_8 : decode cX9_orderOf 8 = .ok (.aload_n 0, 1) := by decide +kernel
theorem dX9_orderOf_9 : decode cX9_orderOf 9 = .ok (.iconst 1, 1) := by decide +kernel
theorem dX9_orderOf_10 : decode cX9_orderOf 10 = .ok (.invokevirtual 220, 3) := by decide +kernel
theorem dX9_orderOf_13 : decode cX9_orderOf 13 = .ok (.ireturn, 1) := by decide +kernel
theorem dX9_orderOf_14 : decode cX9_orderOf 14 = .ok (.iload_n 2, 1) := by decide +kernel
theorem dX9_orderOf_15 : decode cX9_orderOf 15 = .ok (.iconst 0, 1) := by decide +kernel
theorem dX9_orderOf_16 : decode cX9_orderOf 16 = .ok (.bipush 10, 2) := by decide +kernel
theorem dX9_orderOf_18 : decode cX9_orderOf 18 = .ok (.invokestatic 90, 3) := by decide +kernel
theorem dX9_orderOf_21 : decode cX9_orderOf 21 = .ok (.ifCond .ne 9, 3) := by decide +kernel
theorem dX9_orderOf_24 : decode cX9_orderOf 24 = .ok (.aload_n 0, 1) := by decide +kernel
theorem dX9_orderOf_25 : decode cX9_orderOf 25 = .ok (.iconst 2, 1) := by decide +kernel
theorem dX9_orderOf_26 : decode cX9_orderOf 26 = .ok (.invokevirtual 220, 3) := by decide +kernel
theorem dX9_orderOf_29 : decode cX9_orderOf 29 = .ok (.ireturn, 1) := by decide +kernel
theorem dX9_orderOf_30 : decode cX9_orderOf 30 = .ok (.aload_n 0, 1) := by decide +kernel
theorem dX9_orderOf_31 : decode cX9_orderOf 31 = .ok (.iconst 0, 1) := by decide +kernel
theorem dX9_orderOf_32 : decode cX9_orderOf 32 = .ok (.putfield 87, 3) := by decide +kernel
theorem dX9_orderOf_35 : decode cX9_orderOf 35 = .ok (.iload_n 2, 1) := by decide +kernel
theorem dX9_orderOf_36 : decode cX9_orderOf 36 = .ok (.tableswitch 161 0 9 #[56, 63, 70, 77, 84, 91, 98, 117, 136, 154], 56) := by decide +kernel
theorem dX9_orderOf_92 : decode cX9_orderOf 92 = .ok (.aload_n 0, 1) := by decide +kernel
theorem dX9_orderOf_93 : decode cX9_orderOf 93 = .ok (.getfield 16, 3) := by decide +kernel
theorem dX9_orderOf_96 : decode cX9_orderOf 96 = .ok (.iload_n 1, 1) := by decide +kernel
theorem dX9_orderOf_97 : decode cX9_orderOf 97 = .ok (.iaload, 1) := by decide +kernel
theorem dX9_orderOf_98 : decode cX9_orderOf 98 = .ok (.ireturn, 1) := by decide +kernel
theorem dX9_orderOf_99 : decode cX9_orderOf 99 = .ok (.aload_n 0, 1) := by decide +kernel
theorem dX9_orderOf_100 : decode cX9_orderOf 100 = .ok (.getfield 19, 3) := by decide +kernel
theorem dX9_orderOf_103 : decode cX9_orderOf 103 = .ok (.iload_n 1, 1) := by decide +kernel
theorem dX9_orderOf_104 : decode cX9_orderOf 104 = .ok (.iaload, 1) := by decide +kernel
theorem dX9_orderOf_105 : decode cX9_orderOf 105 = .ok (.ireturn, 1) := by decide +kernel
theorem dX9_orderOf_106 : decode cX9_orderOf 106 = .ok (.aload_n 0, 1) := by decide +kernel
theorem dX9_orderOf_107 : decode cX9_orderOf 107 = .ok (.getfield 22, 3) := by decide +kernel
theorem dX9_orderOf_110 : decode cX9_orderOf 110 = .ok (.iload_n 1, 1) := by decide +kernel
theorem dX9_orderOf_111 : decode cX9_orderOf 111 = .ok (.iaload, 1) := by decide +kernel
theorem dX9_orderOf_112 : decode cX9_orderOf 112 = .ok (.ireturn, 1) := by decide +kernel
theorem dX9_orderOf_113 : decode cX9_orderOf 113 = .ok (.aload_n 0, 1) := by decide +kernel
theorem dX9_orderOf_114 : decode cX9_orderOf 114 = .ok (.getfield 25, 3) := by decide +kernel
theorem dX9_orderOf_117 : decode cX9_orderOf 117 = .ok (.iload_n 1, 1) := by decide +kernel
theorem dX9_orderOf_118 : decode cX9_orderOf 118 = .ok (.iaload, 1) := by decide +kernel
theorem dX9_orderOf_119 : decode cX9_orderOf 119 = .ok (.ireturn, 1) := by decide +kernel
theorem dX9_orderOf_120 : decode cX9_orderOf 120 = .ok (.aload_n 0, 1) := by decide +kernel
theorem dX9_orderOf_121 : decode cX9_orderOf 121 = .ok (.getfield 28, 3) := by decide +kernel
theorem dX9_orderOf_124 : decode cX9_orderOf 124 = .ok (.iload_n 1, 1) := by decide +kernel
theorem dX9_orderOf_125 : decode cX9_orderOf 125 = .ok (.iaload, 1) := by decide +kernel
theorem dX9_orderOf_126 : decode cX9_orderOf 126 = .ok (.ireturn, 1) := by decide +kernel
theorem dX9_orderOf_127 : decode cX9_orderOf 127 = .ok (.aload_n 0, 1) := by decide +kernel
theorem dX9_orderOf_128 : decode cX9_orderOf 128 = .ok (.getfield 31, 3) := by decide +kernel
theorem dX9_orderOf_131 : decode cX9_orderOf 131 = .ok (.iload_n 1, 1) := by decide +kernel
theorem dX9_orderOf_132 : decode cX9_orderOf 132 = .ok (.iaload, 1) := by decide +kernel
theorem dX9_orderOf_133 : decode cX9_orderOf 133 = .ok (.ireturn, 1) := by decide +kernel
theorem dX9_orderOf_134 : decode cX9_orderOf 134 = .ok (.aload_n 0, 1) := by decide +kernel
theorem dX9_orderOf_135 : decode cX9_orderOf 135 = .ok (.iload_n 1, 1) := by decide +kernel
theorem dX9_orderOf_136 : decode cX9_orderOf 136 = .ok (.invokevirtual 107, 3) := by decide +kernel
theorem dX9_orderOf_139 : decode cX9_orderOf 139 = .ok (.ifCond .eq 12, 3) := by decide +kernel
theorem dX9_orderOf_142 : decode cX9_orderOf 142 = .ok (.aload_n 0, 1) := by decide +kernel
theorem dX9_orderOf_143 : decode cX9_orderOf 143 = .ok (.getfield 34, 3) := by decide +kernel
theorem dX9_orderOf_146 : decode cX9_orderOf 146 = .ok (.iload_n 1, 1) := by decide +kernel
theorem dX9_orderOf_147 : decode cX9_orderOf 147 = .ok (.iaload, 1) := by decide +kernel
theorem dX9_orderOf_148 : decode cX9_orderOf 148 = .ok (.goto 4, 3) := by decide +kernel
theorem dX9_orderOf_151 : decode cX9_orderOf 151 = .ok (.iconst (-1), 1) := by decide +kernel
theorem dX9_orderOf_152 : decode cX9_orderOf 152 = .ok (.ireturn, 1) := by decide +kernel
theorem dX9_orderOf_153 : decode cX9_orderOf 153 = .ok (.aload_n 0, 1) := by decide +kernel
theorem dX9_orderOf_154 : decode cX9_orderOf 154 = .ok (.iload_n 1, 1) := by decide +kernel
theorem dX9_orderOf_155 : decode cX9_orderOf 155 = .ok (.invokevirtual 107, 3) := by decide +kernel
theorem dX9_orderOf_158 : decode cX9_orderOf 158 = .ok (.ifCond .eq 12, 3) := by decide +kernel
theorem dX9_orderOf_161 : decode cX9_orderOf 161 = .ok (.aload_n 0, 1) := by decide +kernel
theorem dX9_orderOf_162 : decode cX9_orderOf 162 = .ok (.getfield 37, 3) := by decide +kernel
theorem dX9_orderOf_165 : decode cX9_orderOf 165 = .ok (.iload_n 1, 1) := by decide +kernel
theorem dX9_orderOf_166 : decode cX9_orderOf 166 = .ok (.iaload, 1) := by decide +kernel
theorem dX9_orderOf_167 : decode cX9_orderOf 167 = .ok (.goto 4, 3) := by decide +kernel
theorem dX9_orderOf_170 : decode cX9_orderOf 170 = .ok (.iconst (-1), 1) := by decide +kernel
theorem dX9_orderOf_171 : decode cX9_orderOf 171 = .ok (.ireturn, 1) := by decide +kernel
theorem dX9_orderOf_172 : decode cX9_orderOf 172 = .ok (.aload_n 0, 1) := by decide +kernel
theorem dX9_orderOf_173 : decode cX9_orderOf 173 = .ok (.iload_n 1, 1) := by decide +kernel
theorem dX9_orderOf_174 : decode cX9_orderOf 174 = .ok (.invokevirtual 107, 3) := by decide +kernel
theorem dX9_orderOf_177 : decode cX9_orderOf 177 = .ok (.ifCond .eq 11, 3) := by decide +kernel
theorem dX9_orderOf_180 : decode cX9_orderOf 180 = .ok (.aload_n 0, 1) := by decide +kernel
theorem dX9_orderOf_181 : decode cX9_orderOf 181 = .ok (.iload_n 1, 1) := by decide +kernel
theorem dX9_orderOf_182 : decode cX9_orderOf 182 = .ok (.invokevirtual 127, 3) := by decide +kernel
theorem dX9_orderOf_185 : decode cX9_orderOf 185 = .ok (.goto 4, 3) := by decide +kernel
theorem dX9_orderOf_188 : decode cX9_orderOf 188 = .ok (.iconst (-1), 1) := by decide +kernel
theorem dX9_orderOf_189 : decode cX9_orderOf 189 = .ok (.ireturn, 1) := by decide +kernel
theorem dX9_orderOf_190 : decode cX9_orderOf 190 = .ok (.aload_n 0, 1) := by decide +kernel
theorem dX9_orderOf_191 : decode cX9_orderOf 191 = .ok (.getfield 40, 3) := by decide +kernel
theorem dX9_orderOf_194 : decode cX9_orderOf 194 = .ok (.iload_n 1, 1) := by decide +kernel
theorem dX9_orderOf_195 : decode cX9_orderOf 195 = .ok (.iaload, 1) := by decide +kernel
theorem dX9_orderOf_196 : decode cX9_orderOf 196 = .ok (.ireturn, 1) := by decide +kernel
theorem dX9_orderOf_197 : decode cX9_orderOf 197 = .ok (.aload_n 0, 1) := by decide +kernel
theorem dX9_orderOf_198 : decode cX9_orderOf 198 = .ok (.iload_n 1, 1) := by decide +kernel
theorem dX9_orderOf_199 : decode cX9_orderOf 199 = .ok (.invokevirtual 232, 3) := by decide +kernel
theorem dX9_orderOf_202 : decode cX9_orderOf 202 = .ok (.ireturn, 1) := by decide +kernel
theorem dX9_window_0 : decode cX9_window 0 = .ok (.aload_n 0, 1) := by decide +kernel
theorem dX9_window_1 : decode cX9_window 1 = .ok (.iload_n 1, 1) := by decide +kernel
theorem dX9_window_2 : decode cX9_window 2 = .ok (.invokevirtual 229, 3) := by decide +kernel
theorem dX9_window_5 : decode cX9_window 5 = .ok (.ifCond .eq 10, 3) := by decide +kernel
theorem dX9_window_8 : decode cX9_window 8 = .ok (.iload_n 2, 1) := by decide +kernel
theorem dX9_window_9 : decode cX9_window 9 = .ok (.invokestatic 226, 3) := by decide +kernel
theorem dX9_window_12 : decode cX9_window 12 = .ok (.ifCond .ne 9, 3) := by decide +kernel
theorem dX9_window_15 : decode cX9_window 15 = .ok (.aload_n 0, 1) := by decide +kernel
theorem dX9_window_16 : decode cX9_window 16 = .ok (.iconst 1, 1) := by decide +kernel
theorem dX9_window_17 : decode cX9_window 17 = .ok (.invokevirtual 220, 3) := by decide +kernel
theorem dX9_window_20 : decode cX9_window 20 = .ok (.ireturn, 1) := by decide +kernel
theorem dX9_window_21 : decode cX9_window 21 = .ok (.iload_n 2, 1) := by decide +kernel
theorem dX9_window_22 : decode cX9_window 22 = .ok (.aload_n 0, 1) := by decide +kernel
theorem dX9_window_23 : decode cX9_window 23 = .ok (.getfield 25, 3) := by decide +kernel
theorem dX9_window_26 : decode cX9_window 26 = .ok (.iload_n 1, 1) := by decide +kernel
theorem dX9_window_27 : decode cX9_window 27 = .ok (.iaload, 1) := by decide +kernel
theorem dX9_window_28 : decode cX9_window 28 = .ok (.if_icmp .le 7, 3) := by decide +kernel
theorem dX9_window_31 : decode cX9_window 31 = .ok (.iload_n 2, 1) := by decide +kernel
theorem dX9_window_32 : decode cX9_window 32 = .ok (.goto 9, 3) := by decide +kernel
theorem dX9_window_35 : decode cX9_window 35 = .ok (.aload_n 0, 1) := by decide +kernel
theorem dX9_window_36 : decode cX9_window 36 = .ok (.getfield 25, 3) := by decide +kernel
theorem dX9_window_39 : decode cX9_window 39 = .ok (.iload_n 1, 1) := by decide +kernel
theorem dX9_window_40 : decode cX9_window 40 = .ok (.iaload, 1) := by decide +kernel
theorem dX9_window_41 : decode cX9_window 41 = .ok (.istore_n 3, 1) := by decide +kernel
theorem dX9_window_42 : decode cX9_window 42 = .ok (.iload_n 3, 1) := by decide +kernel
theorem dX9_window_43 : decode cX9_window 43 = .ok (.aload_n 0, 1) := by decide +kernel
theorem dX9_window_44 : decode cX9_window 44 = .ok (.getfield 28, 3) := by decide +kernel
theorem dX9_window_47 : decode cX9_window 47 = .ok (.iload_n 1, 1) := by decide +kernel
theorem dX9_window_48 : decode cX9_window 48 = .ok (.iaload, 1) := by decide +kernel
theorem dX9_window_49 : decode cX9_window 49 = .ok (.if_icmp .gt 18, 3) := by decide +kernel
theorem dX9_window_52 : decode cX9_window 52 = .ok (.aload_n 0, 1) := by decide +kernel
theorem dX9_window_53 : decode cX9_window 53 = .ok (.iload_n 1, 1) := by decide +kernel
theorem dX9_window_54 : decode cX9_window 54 = .ok (.iload_n 3, 1) := by decide +kernel
theorem dX9_window_55 : decode cX9_window 55 = .ok (.invokevirtual 114, 3) := by decide +kernel
theorem dX9_window_58 : decode cX9_window 58 = .ok (.ifCond .ne 9, 3) := by decide +kernel
theorem dX9_window_61 : decode cX9_window 61 = .ok (.iinc 3 1, 3) := by decide +kernel
theorem dX9_window_64 : decode cX9_window 64 = .ok (.goto (-22), 3) := by decide +kernel
theorem dX9_window_67 : decode cX9_window 67 = .ok (.iload_n 3, 1) := by decide +kernel
theorem dX9_window_68 : decode cX9_window 68 = .ok (.aload_n 0, 1) := by decide +kernel
theorem dX9_window_69 : decode cX9_window 69 = .ok (.getfield 28, 3) := by decide +kernel
theorem dX9_window_72 : decode cX9_window 72 = .ok (.iload_n 1, 1) := by decide +kernel
theorem dX9_window_73 : decode cX9_window 73 = .ok (.iaload, 1) := by decide +kernel
theorem dX9_window_74 : decode cX9_window 74 = .ok (.if_icmp .le 9, 3) := by decide +kernel
theorem dX9_window_77 : decode cX9_window 77 = .ok (.aload_n 0, 1) := by decide +kernel
theorem dX9_window_78 : decode cX9_window 78 = .ok (.iconst 2, 1) := by decide +kernel
theorem dX9_window_79 : decode cX9_window 79 = .ok (.invokevirtual 220, 3) := by decide +kernel
theorem dX9_window_82 : decode cX9_window 82 = .ok (.ireturn, 1) := by decide +kernel
theorem dX9_window_83 : decode cX9_window 83 = .ok (.aload_n 0, 1) := by decide +kernel
theorem dX9_window_84 : decode cX9_window 84 = .ok (.iconst 0, 1) := by decide +kernel
theorem dX9_window_85 : decode cX9_window 85 = .ok (.putfield 87, 3) := by decide +kernel
theorem dX9_window_88 : decode cX9_window 88 = .ok (.iload_n 3, 1) := by decide +kernel
theorem dX9_window_89 : decode cX9_window 89 = .ok (.ireturn, 1) := by decide +kernel
theorem dX9_refuses_0 : decode cX9_refuses 0 = .ok (.aload_n 0, 1) := by decide +kernel
theorem dX9_refuses_1 : decode cX9_refuses 1 = .ok (.getfield 235, 3) := by decide +kernel
theorem dX9_refuses_4 : decode cX9_refuses 4 = .ok (.ifCond .ne 8, 3) := by decide +kernel
theorem dX9_refuses_7 : decode cX9_refuses 7 = .ok (.aload_n 0, 1) := by decide +kernel
theorem dX9_refuses_8 : decode cX9_refuses 8 = .ok (.iconst 0, 1) := by decide +kernel
theorem dX9_refuses_9 : decode cX9_refuses 9 = .ok (.putfield 239, 3) := by decide +kernel
theorem dX9_refuses_12 : decode cX9_refuses 12 = .ok (.aload_n 0, 1) := by decide +kernel
theorem dX9_refuses_13 : decode cX9_refuses 13 = .ok (.iload_n 1, 1) := by decide +kernel
theorem dX9_refuses_14 : decode cX9_refuses 14 = .ok (.putfield 242, 3) := by decide +kernel
theorem dX9_refuses_17 : decode cX9_refuses 17 = .ok (.aload_n 0, 1) := by decide +kernel
theorem dX9_refuses_18 : decode cX9_refuses 18 = .ok (.iload_n 2, 1) := by decide +kernel
theorem dX9_refuses_19 : decode cX9_refuses 19 = .ok (.invokevirtual 220, 3) := by decide +kernel
theorem dX9_refuses_22 : decode cX9_refuses 22 = .ok (.ireturn, 1) := by decide +kernel
theorem dX9_hinders_0 : decode cX9_hinders 0 = .ok (.aload_n 0, 1) := by decide +kernel
theorem dX9_hinders_1 : decode cX9_hinders 1 = .ok (.iload_n 1, 1) := by decide +kernel
theorem dX9_hinders_2 : decode cX9_hinders 2 = .ok (.invokevirtual 229, 3) := by decide +kernel
theorem dX9_hinders_5 : decode cX9_hinders 5 = .ok (.ifCond .eq 18, 3) := by decide +kernel
theorem dX9_hinders_8 : decode cX9_hinders 8 = .ok (.aload_n 0, 1) := by decide +kernel
theorem dX9_hinders_9 : decode cX9_hinders 9 = .ok (.iload_n 2, 1) := by decide +kernel
theorem dX9_hinders_10 : decode cX9_hinders 10 = .ok (.invokevirtual 245, 3) := by decide +kernel
theorem dX9_hinders_13 : decode cX9_hinders 13 = .ok (.ifCond .eq 10, 3) := by decide +kernel
theorem dX9_hinders_16 : decode cX9_hinders 16 = .ok (.iload_n 3, 1) := by decide +kernel
theorem dX9_hinders_17 : decode cX9_hinders 17 = .ok (.invokestatic 226, 3) := by decide +kernel
theorem dX9_hinders_20 : decode cX9_hinders 20 = .ok (.ifCond .ne 9, 3) := by decide +kernel
theorem dX9_hinders_23 : decode cX9_hinders 23 = .ok (.aload_n 0, 1) := by decide +kernel
theorem dX9_hinders_24 : decode cX9_hinders 24 = .ok (.iconst 1, 1) := by decide +kernel
theorem dX9_hinders_25 : decode cX9_hinders 25 = .ok (.invokevirtual 220, 3) := by decide +kernel
theorem dX9_hinders_28 : decode cX9_hinders 28 = .ok (.ireturn, 1) := by decide +kernel
theorem dX9_hinders_29 : decode cX9_hinders 29 = .ok (.aload_n 0, 1) := by decide +kernel
theorem dX9_hinders_30 : decode cX9_hinders 30 = .ok (.iconst 0, 1) := by decide +kernel
theorem dX9_hinders_31 : decode cX9_hinders 31 = .ok (.putfield 87, 3) := by decide +kernel
theorem dX9_hinders_34 : decode cX9_hinders 34 = .ok (.aload_n 0, 1) := by decide +kernel
theorem dX9_hinders_35 : decode cX9_hinders 35 = .ok (.iload_n 1, 1) := by decide +kernel
theorem dX9_hinders_36 : decode cX9_hinders 36 = .ok (.iload_n 2, 1) := by decide +kernel
theorem dX9_hinders_37 : decode cX9_hinders 37 = .ok (.iload_n 3, 1) := by decide +kernel
theorem dX9_hinders_38 : decode cX9_hinders 38 = .ok (.invokevirtual 194, 3) := by decide +kernel
theorem dX9_hinders_41 : decode cX9_hinders 41 = .ok (.ireturn, 1) := by decide +kernel
theorem dX9_plan_0 : decode cX9_plan 0 = .ok (.aload_n 0, 1) := by decide +kernel
theorem dX9_plan_1 : decode cX9_plan 1 = .ok (.iload_n 1, 1) := by decide +kernel
theorem dX9_plan_2 : decode cX9_plan 2 = .ok (.invokevirtual 229, 3) := by decide +kernel
theorem dX9_plan_5 : decode cX9_plan 5 = .ok (.ifCond .eq 18, 3) := by decide +kernel
theorem dX9_plan_8 : decode cX9_plan 8 = .ok (.aload_n 0, 1) := by decide +kernel
theorem dX9_plan_9 : decode cX9_plan 9 = .ok (.iload_n 2, 1) := by decide +kernel
theorem dX9_plan_10 : decode cX9_plan 10 = .ok (.invokevirtual 245, 3) := by decide +kernel
theorem dX9_plan_13 : decode cX9_plan 13 = .ok (.ifCond .eq 10, 3) := by decide +kernel
theorem dX9_plan_16 : decode cX9_plan 16 = .ok (.iload_n 3, 1) := by decide +kernel
theorem dX9_plan_17 : decode cX9_plan 17 = .ok (.invokestatic 226, 3) := by decide +kernel
theorem dX9_plan_20 : decode cX9_plan 20 = .ok (.ifCond .ne 9, 3) := by decide +kernel
theorem dX9_plan_23 : decode cX9_plan 23 = .ok (.aload_n 0, 1) := by decide +kernel
theorem dX9_plan_24 : decode cX9_plan 24 = .ok (.iconst 1, 1) := by decide +kernel
theorem dX9_plan_25 : decode cX9_plan 25 = .ok (.invokevirtual 220, 3) := by decide +kernel
theorem dX9_plan_28 : decode cX9_plan 28 = .ok (.ireturn, 1) := by decide +kernel
theorem dX9_plan_29 : decode cX9_plan 29 = .ok (.aload_n 0, 1) := by decide +kernel
theorem dX9_plan_30 : decode cX9_plan 30 = .ok (.iload_n 1, 1) := by decide +kernel
theorem dX9_plan_31 : decode cX9_plan 31 = .ok (.iload_n 2, 1) := by decide +kernel
theorem dX9_plan_32 : decode cX9_plan 32 = .ok (.iload_n 3, 1) := by decide +kernel
theorem dX9_plan_33 : decode cX9_plan 33 = .ok (.invokevirtual 194, 3) := by decide +kernel
theorem dX9_plan_36 : decode cX9_plan 36 = .ok (.istore 4, 2) := by decide +kernel
theorem dX9_plan_38 : decode cX9_plan 38 = .ok (.iload 4, 2) := by decide +kernel
theorem dX9_plan_40 : decode cX9_plan 40 = .ok (.ifCond .le 11, 3) := by decide +kernel
theorem dX9_plan_43 : decode cX9_plan 43 = .ok (.aload_n 0, 1) := by decide +kernel
theorem dX9_plan_44 : decode cX9_plan 44 = .ok (.iload 4, 2) := by decide +kernel
theorem dX9_plan_46 : decode cX9_plan 46 = .ok (.iconst 2, 1) := by decide +kernel
theorem dX9_plan_47 : decode cX9_plan 47 = .ok (.invokevirtual 248, 3) := by decide +kernel
theorem dX9_plan_50 : decode cX9_plan 50 = .ok (.ireturn, 1) := by decide +kernel
theorem dX9_plan_51 : decode cX9_plan 51 = .ok (.aload_n 0, 1) := by decide +kernel
theorem dX9_plan_52 : decode cX9_plan 52 = .ok (.iconst 0, 1) := by decide +kernel
theorem dX9_plan_53 : decode cX9_plan 53 = .ok (.putfield 87, 3) := by decide +kernel
theorem dX9_plan_56 : decode cX9_plan 56 = .ok (.aload_n 0, 1) := by decide +kernel
theorem dX9_plan_57 : decode cX9_plan 57 = .ok (.invokevirtual 223, 3) := by decide +kernel
theorem dX9_plan_60 : decode cX9_plan 60 = .ok (.aload_n 0, 1) := by decide +kernel
theorem dX9_plan_61 : decode cX9_plan 61 = .ok (.iload_n 1, 1) := by decide +kernel
theorem dX9_plan_62 : decode cX9_plan 62 = .ok (.iload_n 2, 1) := by decide +kernel
theorem dX9_plan_63 : decode cX9_plan 63 = .ok (.iload_n 3, 1) := by decide +kernel
theorem dX9_plan_64 : decode cX9_plan 64 = .ok (.invokevirtual 210, 3) := by decide +kernel
theorem dX9_plan_67 : decode cX9_plan 67 = .ok (.aload_n 0, 1) := by decide +kernel
theorem dX9_plan_68 : decode cX9_plan 68 = .ok (.iload_n 1, 1) := by decide +kernel
theorem dX9_plan_69 : decode cX9_plan 69 = .ok (.invokevirtual 127, 3) := by decide +kernel
theorem dX9_plan_72 : decode cX9_plan 72 = .ok (.ireturn, 1) := by decide +kernel
theorem dX9_run_0 : decode cX9_run 0 = .ok (.aload_n 0, 1) := by decide +kernel
theorem dX9_run_1 : decode cX9_run 1 = .ok (.iload_n 1, 1) := by decide +kernel
theorem dX9_run_2 : decode cX9_run 2 = .ok (.invokevirtual 252, 3) := by decide +kernel
theorem dX9_run_5 : decode cX9_run 5 = .ok (.ifCond .eq 14, 3) := by decide +kernel
theorem dX9_run_8 : decode cX9_run 8 = .ok (.iload_n 2, 1) := by decide +kernel
theorem dX9_run_9 : decode cX9_run 9 = .ok (.iconst 0, 1) := by decide +kernel
theorem dX9_run_10 : decode cX9_run 10 = .ok (.sipush 900, 3) := by decide +kernel
theorem dX9_run_13 : decode cX9_run 13 = .ok (.invokestatic 90, 3) := by decide +kernel
theorem dX9_run_16 : decode cX9_run 16 = .ok (.ifCond .ne 9, 3) := by decide +kernel
theorem dX9_run_19 : decode cX9_run 19 = .ok (.aload_n 0, 1) := by decide +kernel
theorem dX9_run_20 : decode cX9_run 20 = .ok (.iconst 1, 1) := by decide +kernel
theorem dX9_run_21 : decode cX9_run 21 = .ok (.invokevirtual 220, 3) := by decide +kernel
theorem dX9_run_24 : decode cX9_run 24 = .ok (.ireturn, 1) := by decide +kernel
theorem dX9_run_25 : decode cX9_run 25 = .ok (.iload_n 3, 1) := by decide +kernel
theorem dX9_run_26 : decode cX9_run 26 = .ok (.aload_n 0, 1) := by decide +kernel
theorem dX9_run_27 : decode cX9_run 27 = .ok (.getfield 94, 3) := by decide +kernel
theorem dX9_run_30 : decode cX9_run 30 = .ok (.ishr, 1) := by decide +kernel
theorem dX9_run_31 : decode cX9_run 31 = .ok (.ifCond .eq 9, 3) := by decide +kernel
theorem dX9_run_34 : decode cX9_run 34 = .ok (.aload_n 0, 1) := by decide +kernel
theorem dX9_run_35 : decode cX9_run 35 = .ok (.iconst 2, 1) := by decide +kernel
theorem dX9_run_36 : decode cX9_run 36 = .ok (.invokevirtual 220, 3) := by decide +kernel
theorem dX9_run_39 : decode cX9_run 39 = .ok (.ireturn, 1) := by decide +kernel
theorem dX9_run_40 : decode cX9_run 40 = .ok (.aload_n 0, 1) := by decide +kernel
theorem dX9_run_41 : decode cX9_run 41 = .ok (.iload_n 1, 1) := by decide +kernel
theorem dX9_run_42 : decode cX9_run 42 = .ok (.iload_n 2, 1) := by decide +kernel
theorem dX9_run_43 : decode cX9_run 43 = .ok (.iload_n 3, 1) := by decide +kernel
theorem dX9_run_44 : decode cX9_run 44 = .ok (.invokevirtual 190, 3) := by decide +kernel
theorem dX9_run_47 : decode cX9_run 47 = .ok (.istore 4, 2) := by decide +kernel
theorem dX9_run_49 : decode cX9_run 49 = .ok (.iload 4, 2) := by decide +kernel
theorem dX9_run_51 : decode cX9_run 51 = .ok (.ifCond .le 11, 3) := by decide +kernel
theorem dX9_run_54 : decode cX9_run 54 = .ok (.aload_n 0, 1) := by decide +kernel
theorem dX9_run_55 : decode cX9_run 55 = .ok (.iload 4, 2) := by decide +kernel
theorem dX9_run_57 : decode cX9_run 57 = .ok (.iconst 3, 1) := by decide +kernel
theorem dX9_run_58 : decode cX9_run 58 = .ok (.invokevirtual 248, 3) := by decide +kernel
theorem dX9_run_61 : decode cX9_run 61 = .ok (.ireturn, 1) := by decide +kernel
theorem dX9_run_62 : decode cX9_run 62 = .ok (.aload_n 0, 1) := by decide +kernel
theorem dX9_run_63 : decode cX9_run 63 = .ok (.iconst 0, 1) := by decide +kernel
theorem dX9_run_64 : decode cX9_run 64 = .ok (.putfield 87, 3) := by decide +kernel
theorem dX9_run_67 : decode cX9_run 67 = .ok (.aload_n 0, 1) := by decide +kernel
theorem dX9_run_68 : decode cX9_run 68 = .ok (.invokevirtual 223, 3) := by decide +kernel
theorem dX9_run_71 : decode cX9_run 71 = .ok (.aload_n 0, 1) := by decide +kernel
theorem dX9_run_72 : decode cX9_run 72 = .ok (.iload_n 1, 1) := by decide +kernel
theorem dX9_run_73 : decode cX9_run 73 = .ok (.iload_n 2, 1) := by decide +kernel
theorem dX9_run_74 : decode cX9_run 74 = .ok (.iload_n 3, 1) := by decide +kernel
theorem dX9_run_75 : decode cX9_run 75 = .ok (.invokevirtual 207, 3) := by decide +kernel
theorem dX9_run_78 : decode cX9_run 78 = .ok (.ireturn, 1) := by decide +kernel
theorem dX9_serving_0 : decode cX9_serving 0 = .ok (.aload_n 0, 1) := by decide +kernel
theorem dX9_serving_1 : decode cX9_serving 1 = .ok (.iload_n 1, 1) := by decide +kernel
