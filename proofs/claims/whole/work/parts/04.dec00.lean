theorem dX0_init_0 : decode cX0_init 0 = .ok (.aload_n 0, 1) := by decide +kernel
theorem dX0_init_1 : decode cX0_init 1 = .ok (.invokespecial 3, 3) := by decide +kernel
theorem dX0_init_4 : decode cX0_init 4 = .ok (.return_, 1) := by decide +kernel
theorem dX0_start_0 : decode cX0_start 0 = .ok (.aload_n 0, 1) := by decide +kernel
theorem dX0_start_1 : decode cX0_start 1 = .ok (.iload_n 1, 1) := by decide +kernel
theorem dX0_start_2 : decode cX0_start 2 = .ok (.putfield 9, 3) := by decide +kernel
theorem dX0_start_5 : decode cX0_start 5 = .ok (.aload_n 0, 1) := by decide +kernel
theorem dX0_start_6 : decode cX0_start 6 = .ok (.iconst 0, 1) := by decide +kernel
theorem dX0_start_7 : decode cX0_start 7 = .ok (.putfield 15, 3) := by decide +kernel
theorem dX0_start_10 : decode cX0_start 10 = .ok (.aload_n 0, 1) := by decide +kernel
theorem dX0_start_11 : decode cX0_start 11 = .ok (.iconst 0, 1) := by decide +kernel
theorem dX0_start_12 : decode cX0_start 12 = .ok (.putfield 18, 3) := by decide +kernel
theorem dX0_start_15 : decode cX0_start 15 = .ok (.aload_n 0, 1) := by decide +kernel
theorem dX0_start_16 : decode cX0_start 16 = .ok (.iconst 0, 1) := by decide +kernel
theorem dX0_start_17 : decode cX0_start 17 = .ok (.putfield 21, 3) := by decide +kernel
theorem dX0_start_20 : decode cX0_start 20 = .ok (.aload_n 0, 1) := by decide +kernel
theorem dX0_start_21 : decode cX0_start 21 = .ok (.iconst 0, 1) := by decide +kernel
theorem dX0_start_22 : decode cX0_start 22 = .ok (.putfield 24, 3) := by decide +kernel
theorem dX0_start_25 : decode cX0_start 25 = .ok (.return_, 1) := by decide +kernel
theorem dX0_copyFrom_0 : decode cX0_copyFrom 0 = .ok (.aload_n 0, 1) := by decide +kernel
theorem dX0_copyFrom_1 : decode cX0_copyFrom 1 = .ok (.aload_n 1, 1) := by decide +kernel
theorem dX0_copyFrom_2 : decode cX0_copyFrom 2 = .ok (.getfield 9, 3) := by decide +kernel
theorem dX0_copyFrom_5 : decode cX0_copyFrom 5 = .ok (.putfield 9, 3) := by decide +kernel
theorem dX0_copyFrom_8 : decode cX0_copyFrom 8 = .ok (.aload_n 0, 1) := by decide +kernel
theorem dX0_copyFrom_9 : decode cX0_copyFrom 9 = .ok (.aload_n 1, 1) := by decide +kernel
theorem dX0_copyFrom_10 : decode cX0_copyFrom 10 = .ok (.getfield 15, 3) := by decide +kernel
theorem dX0_copyFrom_13 : decode cX0_copyFrom 13 = .ok (.putfield 15, 3) := by decide +kernel
theorem dX0_copyFrom_16 : decode cX0_copyFrom 16 = .ok (.aload_n 0, 1) := by decide +kernel
theorem dX0_copyFrom_17 : decode cX0_copyFrom 17 = .ok (.aload_n 1, 1) := by decide +kernel
theorem dX0_copyFrom_18 : decode cX0_copyFrom 18 = .ok (.getfield 18, 3) := by decide +kernel
theorem dX0_copyFrom_21 : decode cX0_copyFrom 21 = .ok (.putfield 18, 3) := by decide +kernel
theorem dX0_copyFrom_24 : decode cX0_copyFrom 24 = .ok (.aload_n 0, 1) := by decide +kernel
theorem dX0_copyFrom_25 : decode cX0_copyFrom 25 = .ok (.aload_n 1, 1) := by decide +kernel
theorem dX0_copyFrom_26 : decode cX0_copyFrom 26 = .ok (.getfield 21, 3) := by decide +kernel
theorem dX0_copyFrom_29 : decode cX0_copyFrom 29 = .ok (.putfield 21, 3) := by decide +kernel
theorem dX0_copyFrom_32 : decode cX0_copyFrom 32 = .ok (.aload_n 0, 1) := by decide +kernel
theorem dX0_copyFrom_33 : decode cX0_copyFrom 33 = .ok (.aload_n 1, 1) := by decide +kernel
theorem dX0_copyFrom_34 : decode cX0_copyFrom 34 = .ok (.getfield 24, 3) := by decide +kernel
theorem dX0_copyFrom_37 : decode cX0_copyFrom 37 = .ok (.putfield 24, 3) := by decide +kernel
theorem dX0_copyFrom_40 : decode cX0_copyFrom 40 = .ok (.return_, 1) := by decide +kernel
theorem dX0_goal_0 : decode cX0_goal 0 = .ok (.aload_n 0, 1) := by decide +kernel
theorem dX0_goal_1 : decode cX0_goal 1 = .ok (.getfield 18, 3) := by decide +kernel
theorem dX0_goal_4 : decode cX0_goal 4 = .ok (.ifCond .ne 7, 3) := by decide +kernel
theorem dX0_goal_7 : decode cX0_goal 7 = .ok (.iconst 1, 1) := by decide +kernel
theorem dX0_goal_8 : decode cX0_goal 8 = .ok (.goto 4, 3) := by decide +kernel
theorem dX0_goal_11 : decode cX0_goal 11 = .ok (.iconst 0, 1) := by decide +kernel
theorem dX0_goal_12 : decode cX0_goal 12 = .ok (.ireturn, 1) := by decide +kernel
theorem dX1_init_0 : decode cX1_init 0 = .ok (.aload_n 0, 1) := by decide +kernel
theorem dX1_init_1 : decode cX1_init 1 = .ok (.invokespecial 3, 3) := by decide +kernel
theorem dX1_init_4 : decode cX1_init 4 = .ok (.aload_n 0, 1) := by decide +kernel
theorem dX1_init_5 : decode cX1_init 5 = .ok (.bipush 9, 2) := by decide +kernel
theorem dX1_init_7 : decode cX1_init 7 = .ok (.anewarray 11, 3) := by decide +kernel
theorem dX1_init_10 : decode cX1_init 10 = .ok (.putfield 13, 3) := by decide +kernel
theorem dX1_init_13 : decode cX1_init 13 = .ok (.iconst 0, 1) := by decide +kernel
theorem dX1_init_14 : decode cX1_init 14 = .ok (.istore_n 1, 1) := by decide +kernel
theorem dX1_init_15 : decode cX1_init 15 = .ok (.iload_n 1, 1) := by decide +kernel
theorem dX1_init_16 : decode cX1_init 16 = .ok (.bipush 9, 2) := by decide +kernel
theorem dX1_init_18 : decode cX1_init 18 = .ok (.if_icmp .ge 22, 3) := by decide +kernel
theorem dX1_init_21 : decode cX1_init 21 = .ok (.aload_n 0, 1) := by decide +kernel
theorem dX1_init_22 : decode cX1_init 22 = .ok (.getfield 13, 3) := by decide +kernel
theorem dX1_init_25 : decode cX1_init 25 = .ok (.iload_n 1, 1) := by decide +kernel
theorem dX1_init_26 : decode cX1_init 26 = .ok (.new 11, 3) := by decide +kernel
theorem dX1_init_29 : decode cX1_init 29 = .ok (.dup, 1) := by decide +kernel
theorem dX1_init_30 : decode cX1_init 30 = .ok (.invokespecial 17, 3) := by decide +kernel
theorem dX1_init_33 : decode cX1_init 33 = .ok (.aastore, 1) := by decide +kernel
theorem dX1_init_34 : decode cX1_init 34 = .ok (.iinc 1 1, 3) := by decide +kernel
theorem dX1_init_37 : decode cX1_init 37 = .ok (.goto (-22), 3) := by decide +kernel
theorem dX1_init_40 : decode cX1_init 40 = .ok (.return_, 1) := by decide +kernel
theorem dX1_add_0 : decode cX1_add 0 = .ok (.aload_n 0, 1) := by decide +kernel
theorem dX1_add_1 : decode cX1_add 1 = .ok (.aload_n 1, 1) := by decide +kernel
theorem dX1_add_2 : decode cX1_add 2 = .ok (.invokevirtual 18, 3) := by decide +kernel
theorem dX1_add_5 : decode cX1_add 5 = .ok (.aload_n 0, 1) := by decide +kernel
theorem dX1_add_6 : decode cX1_add 6 = .ok (.invokevirtual 22, 3) := by decide +kernel
theorem dX1_add_9 : decode cX1_add 9 = .ok (.return_, 1) := by decide +kernel
theorem dX1_prepare_0 : decode cX1_prepare 0 = .ok (.aload_n 0, 1) := by decide +kernel
theorem dX1_prepare_1 : decode cX1_prepare 1 = .ok (.getfield 13, 3) := by decide +kernel
theorem dX1_prepare_4 : decode cX1_prepare 4 = .ok (.aload_n 0, 1) := by decide +kernel
theorem dX1_prepare_5 : decode cX1_prepare 5 = .ok (.getfield 25, 3) := by decide +kernel
theorem dX1_prepare_8 : decode cX1_prepare 8 = .ok (.aaload, 1) := by decide +kernel
theorem dX1_prepare_9 : decode cX1_prepare 9 = .ok (.aload_n 1, 1) := by decide +kernel
theorem dX1_prepare_10 : decode cX1_prepare 10 = .ok (.invokevirtual 29, 3) := by decide +kernel
theorem dX1_prepare_13 : decode cX1_prepare 13 = .ok (.return_, 1) := by decide +kernel
theorem dX1_commit_0 : decode cX1_commit 0 = .ok (.aload_n 0, 1) := by decide +kernel
theorem dX1_commit_1 : decode cX1_commit 1 = .ok (.aload_n 0, 1) := by decide +kernel
theorem dX1_commit_2 : decode cX1_commit 2 = .ok (.getfield 25, 3) := by decide +kernel
theorem dX1_commit_5 : decode cX1_commit 5 = .ok (.bipush 8, 2) := by decide +kernel
theorem dX1_commit_7 : decode cX1_commit 7 = .ok (.if_icmp .ne 7, 3) := by decide +kernel
theorem dX1_commit_10 : decode cX1_commit 10 = .ok (.iconst 0, 1) := by decide +kernel
theorem dX1_commit_11 : decode cX1_commit 11 = .ok (.goto 9, 3) := by decide +kernel
theorem dX1_commit_14 : decode cX1_commit 14 = .ok (.aload_n 0, 1) := by decide +kernel
theorem dX1_commit_15 : decode cX1_commit 15 = .ok (.getfield 25, 3) := by decide +kernel
theorem dX1_commit_18 : decode cX1_commit 18 = .ok (.iconst 1, 1) := by decide +kernel
theorem dX1_commit_19 : decode cX1_commit 19 = .ok (.iadd, 1) := by decide +kernel
theorem dX1_commit_20 : decode cX1_commit 20 = .ok (.putfield 25, 3) := by decide +kernel
theorem dX1_commit_23 : decode cX1_commit 23 = .ok (.aload_n 0, 1) := by decide +kernel
theorem dX1_commit_24 : decode cX1_commit 24 = .ok (.bipush 8, 2) := by decide +kernel
theorem dX1_commit_26 : decode cX1_commit 26 = .ok (.aload_n 0, 1) := by decide +kernel
theorem dX1_commit_27 : decode cX1_commit 27 = .ok (.getfield 32, 3) := by decide +kernel
theorem dX1_commit_30 : decode cX1_commit 30 = .ok (.iconst 1, 1) := by decide +kernel
theorem dX1_commit_31 : decode cX1_commit 31 = .ok (.iadd, 1) := by decide +kernel
theorem dX1_commit_32 : decode cX1_commit 32 = .ok (.invokestatic 35, 3) := by decide +kernel
theorem dX1_commit_35 : decode cX1_commit 35 = .ok (.putfield 32, 3) := by decide +kernel
theorem dX1_commit_38 : decode cX1_commit 38 = .ok (.return_, 1) := by decide +kernel
theorem dX1_takeBack_0 : decode cX1_takeBack 0 = .ok (.aload_n 1, 1) := by decide +kernel
theorem dX1_takeBack_1 : decode cX1_takeBack 1 = .ok (.aload_n 0, 1) := by decide +kernel
theorem dX1_takeBack_2 : decode cX1_takeBack 2 = .ok (.getfield 13, 3) := by decide +kernel
theorem dX1_takeBack_5 : decode cX1_takeBack 5 = .ok (.aload_n 0, 1) := by decide +kernel
theorem dX1_takeBack_6 : decode cX1_takeBack 6 = .ok (.getfield 25, 3) := by decide +kernel
theorem dX1_takeBack_9 : decode cX1_takeBack 9 = .ok (.aaload, 1) := by decide +kernel
theorem dX1_takeBack_10 : decode cX1_takeBack 10 = .ok (.invokevirtual 29, 3) := by decide +kernel
theorem dX1_takeBack_13 : decode cX1_takeBack 13 = .ok (.return_, 1) := by decide +kernel
theorem dX1_stepBack_0 : decode cX1_stepBack 0 = .ok (.aload_n 0, 1) := by decide +kernel
theorem dX1_stepBack_1 : decode cX1_stepBack 1 = .ok (.aload_n 0, 1) := by decide +kernel
theorem dX1_stepBack_2 : decode cX1_stepBack 2 = .ok (.getfield 25, 3) := by decide +kernel
theorem dX1_stepBack_5 : decode cX1_stepBack 5 = .ok (.ifCond .ne 8, 3) := by decide +kernel
theorem dX1_stepBack_8 : decode cX1_stepBack 8 = .ok (.bipush 8, 2) := by decide +kernel
theorem dX1_stepBack_10 : decode cX1_stepBack 10 = .ok (.goto 9, 3) := by decide +kernel
theorem dX1_stepBack_13 : decode cX1_stepBack 13 = .ok (.aload_n 0, 1) := by decide +kernel
theorem dX1_stepBack_14 : decode cX1_stepBack 14 = .ok (.getfield 25, 3) := by decide +kernel
theorem dX1_stepBack_17 : decode cX1_stepBack 17 = .ok (.iconst 1, 1) := by decide +kernel
theorem dX1_stepBack_18 : decode cX1_stepBack 18 = .ok (.isub, 1) := by decide +kernel
theorem dX1_stepBack_19 : decode cX1_stepBack 19 = .ok (.putfield 25, 3) := by decide +kernel
theorem dX1_stepBack_22 : decode cX1_stepBack 22 = .ok (.aload_n 0, 1) := by decide +kernel
theorem dX1_stepBack_23 : decode cX1_stepBack 23 = .ok (.dup, 1) := by decide +kernel
theorem dX1_stepBack_24 : decode cX1_stepBack 24 = .ok (.getfield 32, 3) := by decide +kernel
theorem dX1_stepBack_27 : decode cX1_stepBack 27 = .ok (.iconst 1, 1) := by decide +kernel
theorem dX1_stepBack_28 : decode cX1_stepBack 28 = .ok (.isub, 1) := by decide +kernel
theorem dX1_stepBack_29 : decode cX1_stepBack 29 = .ok (.putfield 32, 3) := by decide +kernel
theorem dX1_stepBack_32 : decode cX1_stepBack 32 = .ok (.aload_n 0, 1) := by decide +kernel
theorem dX1_stepBack_33 : decode cX1_stepBack 33 = .ok (.aload_n 1, 1) := by decide +kernel
theorem dX1_stepBack_34 : decode cX1_stepBack 34 = .ok (.invokevirtual 41, 3) := by decide +kernel
theorem dX1_stepBack_37 : decode cX1_stepBack 37 = .ok (.return_, 1) := by decide +kernel
theorem dX2_init_0 : decode cX2_init 0 = .ok (.aload_n 0, 1) := by decide +kernel
theorem dX2_init_1 : decode cX2_init 1 = .ok (.invokespecial 3, 3) := by decide +kernel
theorem dX2_init_4 : decode cX2_init 4 = .ok (.aload_n 0, 1) := by decide +kernel
theorem dX2_init_5 : decode cX2_init 5 = .ok (.aload_n 1, 1) := by decide +kernel
theorem dX2_init_6 : decode cX2_init 6 = .ok (.putfield 9, 3) := by decide +kernel
theorem dX2_init_9 : decode cX2_init 9 = .ok (.aload_n 0, 1) := by decide +kernel
theorem dX2_init_10 : decode cX2_init 10 = .ok (.aload_n 1, 1) := by decide +kernel
theorem dX2_init_11 : decode cX2_init 11 = .ok (.ifnonnull 7, 3) := by decide +kernel
theorem dX2_init_14 : decode cX2_init 14 = .ok (.iconst 0, 1) := by decide +kernel
theorem dX2_init_15 : decode cX2_init 15 = .ok (.goto 9, 3) := by decide +kernel
theorem dX2_init_18 : decode cX2_init 18 = .ok (.aload_n 1, 1) := by decide +kernel
theorem dX2_init_19 : decode cX2_init 19 = .ok (.getfield 15, 3) := by decide +kernel
theorem dX2_init_22 : decode cX2_init 22 = .ok (.iconst 1, 1) := by decide +kernel
theorem dX2_init_23 : decode cX2_init 23 = .ok (.iadd, 1) := by decide +kernel
theorem dX2_init_24 : decode cX2_init 24 = .ok (.putfield 15, 3) := by decide +kernel
theorem dX2_init_27 : decode cX2_init 27 = .ok (.aload_n 0, 1) := by decide +kernel
theorem dX2_init_28 : decode cX2_init 28 = .ok (.iload_n 2, 1) := by decide +kernel
theorem dX2_init_29 : decode cX2_init 29 = .ok (.putfield 19, 3) := by decide +kernel
theorem dX2_init_32 : decode cX2_init 32 = .ok (.aload_n 0, 1) := by decide +kernel
theorem dX2_init_33 : decode cX2_init 33 = .ok (.iload_n 3, 1) := by decide +kernel
theorem dX2_init_34 : decode cX2_init 34 = .ok (.putfield 22, 3) := by decide +kernel
theorem dX2_init_37 : decode cX2_init 37 = .ok (.aload_n 0, 1) := by decide +kernel
theorem dX2_init_38 : decode cX2_init 38 = .ok (.iload 4, 2) := by decide +kernel
theorem dX2_init_40 : decode cX2_init 40 = .ok (.putfield 25, 3) := by decide +kernel
theorem dX2_init_43 : decode cX2_init 43 = .ok (.aload_n 0, 1) := by decide +kernel
theorem dX2_init_44 : decode cX2_init 44 = .ok (.iload 5, 2) := by decide +kernel
theorem dX2_init_46 : decode cX2_init 46 = .ok (.putfield 28, 3) := by decide +kernel
theorem dX2_init_49 : decode cX2_init 49 = .ok (.aload_n 0, 1) := by decide +kernel
theorem dX2_init_50 : decode cX2_init 50 = .ok (.iload 6, 2) := by decide +kernel
theorem dX2_init_52 : decode cX2_init 52 = .ok (.putfield 31, 3) := by decide +kernel
theorem dX2_init_55 : decode cX2_init 55 = .ok (.return_, 1) := by decide +kernel
theorem dX2_touchesNight_0 : decode cX2_touchesNight 0 = .ok (.aload_n 0, 1) := by decide +kernel
theorem dX2_touchesNight_1 : decode cX2_touchesNight 1 = .ok (.getfield 25, 3) := by decide +kernel
theorem dX2_touchesNight_4 : decode cX2_touchesNight 4 = .ok (.istore_n 1, 1) := by decide +kernel
theorem dX2_touchesNight_5 : decode cX2_touchesNight 5 = .ok (.iload_n 1, 1) := by decide +kernel
theorem dX2_touchesNight_6 : decode cX2_touchesNight 6 = .ok (.aload_n 0, 1) := by decide +kernel
theorem dX2_touchesNight_7 : decode cX2_touchesNight 7 = .ok (.getfield 28, 3) := by decide +kernel
theorem dX2_touchesNight_10 : decode cX2_touchesNight 10 = .ok (.if_icmp .ge 20, 3) := by decide +kernel
theorem dX2_touchesNight_13 : decode cX2_touchesNight 13 = .ok (.iload_n 1, 1) := by decide +kernel
theorem dX2_touchesNight_14 : decode cX2_touchesNight 14 = .ok (.bipush 24, 2) := by decide +kernel
theorem dX2_touchesNight_16 : decode cX2_touchesNight 16 = .ok (.irem, 1) := by decide +kernel
theorem dX2_touchesNight_17 : decode cX2_touchesNight 17 = .ok (.bipush 6, 2) := by decide +kernel
theorem dX2_touchesNight_19 : decode cX2_touchesNight 19 = .ok (.if_icmp .ge 5, 3) := by decide +kernel
theorem dX2_touchesNight_22 : decode cX2_touchesNight 22 = .ok (.iconst 1, 1) := by decide +kernel
theorem dX2_touchesNight_23 : decode cX2_touchesNight 23 = .ok (.ireturn, 1) := by decide +kernel
theorem dX2_touchesNight_24 : decode cX2_touchesNight 24 = .ok (.iinc 1 1, 3) := by decide +kernel
theorem dX2_touchesNight_27 : decode cX2_touchesNight 27 = .ok (.goto (-22), 3) := by decide +kernel
theorem dX2_touchesNight_30 : decode cX2_touchesNight 30 = .ok (.iconst 0, 1) := by decide +kernel
theorem dX2_touchesNight_31 : decode cX2_touchesNight 31 = .ok (.ireturn, 1) := by decide +kernel
theorem dX3_init_0 : decode cX3_init 0 = .ok (.aload_n 0, 1) := by decide +kernel
theorem dX3_init_1 : decode cX3_init 1 = .ok (.invokespecial 3, 3) := by decide +kernel
theorem dX3_init_4 : decode cX3_init 4 = .ok (.aload_n 0, 1) := by decide +kernel
theorem dX3_init_5 : decode cX3_init 5 = .ok (.iconst (-1), 1) := by decide +kernel
theorem dX3_init_6 : decode cX3_init 6 = .ok (.putfield 9, 3) := by decide +kernel
theorem dX3_init_9 : decode cX3_init 9 = .ok (.aload_n 0, 1) := by decide +kernel
theorem dX3_init_10 : decode cX3_init 10 = .ok (.iconst (-1), 1) := by decide +kernel
theorem dX3_init_11 : decode cX3_init 11 = .ok (.putfield 15, 3) := by decide +kernel
theorem dX3_init_14 : decode cX3_init 14 = .ok (.aload_n 0, 1) := by decide +kernel
theorem dX3_init_15 : decode cX3_init 15 = .ok (.iconst (-1), 1) := by decide +kernel
theorem dX3_init_16 : decode cX3_init 16 = .ok (.putfield 18, 3) := by decide +kernel
theorem dX3_init_19 : decode cX3_init 19 = .ok (.return_, 1) := by decide +kernel
theorem dX3_start_0 : decode cX3_start 0 = .ok (.aload_n 0, 1) := by decide +kernel
theorem dX3_start_1 : decode cX3_start 1 = .ok (.iload_n 1, 1) := by decide +kernel
theorem dX3_start_2 : decode cX3_start 2 = .ok (.putfield 21, 3) := by decide +kernel
theorem dX3_start_5 : decode cX3_start 5 = .ok (.aload_n 0, 1) := by decide +kernel
theorem dX3_start_6 : decode cX3_start 6 = .ok (.iload_n 2, 1) := by decide +kernel
theorem dX3_start_7 : decode cX3_start 7 = .ok (.putfield 24, 3) := by decide +kernel
theorem dX3_start_10 : decode cX3_start 10 = .ok (.aload_n 0, 1) := by decide +kernel
theorem dX3_start_11 : decode cX3_start 11 = .ok (.iload_n 3, 1) := by decide +kernel
theorem dX3_start_12 : decode cX3_start 12 = .ok (.putfield 27, 3) := by decide +kernel
theorem dX3_start_15 : decode cX3_start 15 = .ok (.aload_n 0, 1) := by decide +kernel
theorem dX3_start_16 : decode cX3_start 16 = .ok (.iload 4, 2) := by decide +kernel
theorem dX3_start_18 : decode cX3_start 18 = .ok (.putfield 30, 3) := by decide +kernel
theorem dX3_start_21 : decode cX3_start 21 = .ok (.aload_n 0, 1) := by decide +kernel
theorem dX3_start_22 : decode cX3_start 22 = .ok (.iload 5, 2) := by decide +kernel
theorem dX3_start_24 : decode cX3_start 24 = .ok (.putfield 33, 3) := by decide +kernel
theorem dX3_start_27 : decode cX3_start 27 = .ok (.aload_n 0, 1) := by decide +kernel
theorem dX3_start_28 : decode cX3_start 28 = .ok (.iconst 0, 1) := by decide +kernel
theorem dX3_start_29 : decode cX3_start 29 = .ok (.putfield 36, 3) := by decide +kernel
theorem dX3_start_32 : decode cX3_start 32 = .ok (.aload_n 0, 1) := by decide +kernel
theorem dX3_start_33 : decode cX3_start 33 = .ok (.invokevirtual 39, 3) := by decide +kernel
theorem dX3_start_36 : decode cX3_start 36 = .ok (.return_, 1) := by decide +kernel
theorem dX3_copyFrom_0 : decode cX3_copyFrom 0 = .ok (.aload_n 0, 1) := by decide +kernel
theorem dX3_copyFrom_1 : decode cX3_copyFrom 1 = .ok (.aload_n 1, 1) := by decide +kernel
theorem dX3_copyFrom_2 : decode cX3_copyFrom 2 = .ok (.getfield 21, 3) := by decide +kernel
theorem dX3_copyFrom_5 : decode cX3_copyFrom 5 = .ok (.putfield 21, 3) := by decide +kernel
theorem dX3_copyFrom_8 : decode cX3_copyFrom 8 = .ok (.aload_n 0, 1) := by decide +kernel
theorem dX3_copyFrom_9 : decode cX3_copyFrom 9 = .ok (.aload_n 1, 1) := by decide +kernel
theorem dX3_copyFrom_10 : decode cX3_copyFrom 10 = .ok (.getfield 24, 3) := by decide +kernel
theorem dX3_copyFrom_13 : decode cX3_copyFrom 13 = .ok (.putfield 24, 3) := by decide +kernel
theorem dX3_copyFrom_16 : decode cX3_copyFrom 16 = .ok (.aload_n 0, 1) := by decide +kernel
theorem dX3_copyFrom_17 : decode cX3_copyFrom 17 = .ok (.aload_n 1, 1) := by decide +kernel
theorem dX3_copyFrom_18 : decode cX3_copyFrom 18 = .ok (.getfield 27, 3) := by decide +kernel
theorem dX3_copyFrom_21 : decode cX3_copyFrom 21 = .ok (.putfield 27, 3) := by decide +kernel
theorem dX3_copyFrom_24 : decode cX3_copyFrom 24 = .ok (.aload_n 0, 1) := by decide +kernel
theorem dX3_copyFrom_25 : decode cX3_copyFrom 25 = .ok (.aload_n 1, 1) := by decide +kernel
theorem dX3_copyFrom_26 : decode cX3_copyFrom 26 = .ok (.getfield 30, 3) := by decide +kernel
theorem dX3_copyFrom_29 : decode cX3_copyFrom 29 = .ok (.putfield 30, 3) := by decide +kernel
theorem dX3_copyFrom_32 : decode cX3_copyFrom 32 = .ok (.aload_n 0, 1) := by decide +kernel
theorem dX3_copyFrom_33 : decode cX3_copyFrom 33 = .ok (.aload_n 1, 1) := by decide +kernel
theorem dX3_copyFrom_34 : decode cX3_copyFrom 34 = .ok (.getfield 33, 3) := by decide +kernel
theorem dX3_copyFrom_37 : decode cX3_copyFrom 37 = .ok (.putfield 33, 3) := by decide +kernel
theorem dX3_copyFrom_40 : decode cX3_copyFrom 40 = .ok (.aload_n 0, 1) := by decide +kernel
theorem dX3_copyFrom_41 : decode cX3_copyFrom 41 = .ok (.aload_n 1, 1) := by decide +kernel
theorem dX3_copyFrom_42 : decode cX3_copyFrom 42 = .ok (.getfield 42, 3) := by decide +kernel
theorem dX3_copyFrom_45 : decode cX3_copyFrom 45 = .ok (.putfield 42, 3) := by decide +kernel
theorem dX3_copyFrom_48 : decode cX3_copyFrom 48 = .ok (.aload_n 0, 1) := by decide +kernel
theorem dX3_copyFrom_49 : decode cX3_copyFrom 49 = .ok (.aload_n 1, 1) := by decide +kernel
theorem dX3_copyFrom_50 : decode cX3_copyFrom 50 = .ok (.getfield 9, 3) := by decide +kernel
theorem dX3_copyFrom_53 : decode cX3_copyFrom 53 = .ok (.putfield 9, 3) := by decide +kernel
theorem dX3_copyFrom_56 : decode cX3_copyFrom 56 = .ok (.aload_n 0, 1) := by decide +kernel
theorem dX3_copyFrom_57 : decode cX3_copyFrom 57 = .ok (.aload_n 1, 1) := by decide +kernel
theorem dX3_copyFrom_58 : decode cX3_copyFrom 58 = .ok (.getfield 15, 3) := by decide +kernel
theorem dX3_copyFrom_61 : decode cX3_copyFrom 61 = .ok (.putfield 15, 3) := by decide +kernel
theorem dX3_copyFrom_64 : decode cX3_copyFrom 64 = .ok (.aload_n 0, 1) := by decide +kernel
theorem dX3_copyFrom_65 : decode cX3_copyFrom 65 = .ok (.aload_n 1, 1) := by decide +kernel
theorem dX3_copyFrom_66 : decode cX3_copyFrom 66 = .ok (.getfield 18, 3) := by decide +kernel
theorem dX3_copyFrom_69 : decode cX3_copyFrom 69 = .ok (.putfield 18, 3) := by decide +kernel
theorem dX3_copyFrom_72 : decode cX3_copyFrom 72 = .ok (.aload_n 0, 1) := by decide +kernel
theorem dX3_copyFrom_73 : decode cX3_copyFrom 73 = .ok (.aload_n 1, 1) := by decide +kernel
theorem dX3_copyFrom_74 : decode cX3_copyFrom 74 = .ok (.getfield 36, 3) := by decide +kernel
theorem dX3_copyFrom_77 : decode cX3_copyFrom 77 = .ok (.putfield 36, 3) := by decide +kernel
theorem dX3_copyFrom_80 : decode cX3_copyFrom 80 = .ok (.return_, 1) := by decide +kernel
theorem dX3_setOpen_0 : decode cX3_setOpen 0 = .ok (.aload_n 0, 1) := by decide +kernel
theorem dX3_setOpen_1 : decode cX3_setOpen 1 = .ok (.iconst 0, 1) := by decide +kernel
theorem dX3_setOpen_2 : decode cX3_setOpen 2 = .ok (.putfield 42, 3) := by decide +kernel
theorem dX3_setOpen_5 : decode cX3_setOpen 5 = .ok (.aload_n 0, 1) := by decide +kernel
theorem dX3_setOpen_6 : decode cX3_setOpen 6 = .ok (.iconst (-1), 1) := by decide +kernel
theorem dX3_setOpen_7 : decode cX3_setOpen 7 = .ok (.putfield 9, 3) := by decide +kernel
theorem dX3_setOpen_10 : decode cX3_setOpen 10 = .ok (.aload_n 0, 1) := by decide +kernel
theorem dX3_setOpen_11 : decode cX3_setOpen 11 = .ok (.iconst (-1), 1) := by decide +kernel
theorem dX3_setOpen_12 : decode cX3_setOpen 12 = .ok (.putfield 15, 3) := by decide +kernel
theorem dX3_setOpen_15 : decode cX3_setOpen 15 = .ok (.aload_n 0, 1) := by decide +kernel
theorem dX3_setOpen_16 : decode cX3_setOpen 16 = .ok (.iconst (-1), 1) := by decide +kernel
theorem dX3_setOpen_17 : decode cX3_setOpen 17 = .ok (.putfield 18, 3) := by decide +kernel
theorem dX3_setOpen_20 : decode cX3_setOpen 20 = .ok (.return_, 1) := by decide +kernel
theorem dX3_setPlanned_0 : decode cX3_setPlanned 0 = .ok (.aload_n 0, 1) := by decide +kernel
theorem dX3_setPlanned_1 : decode cX3_setPlanned 1 = .ok (.iconst 1, 1) := by decide +kernel
theorem dX3_setPlanned_2 : decode cX3_setPlanned 2 = .ok (.putfield 42, 3) := by decide +kernel
theorem dX3_setPlanned_5 : decode cX3_setPlanned 5 = .ok (.aload_n 0, 1) := by decide +kernel
theorem dX3_setPlanned_6 : decode cX3_setPlanned 6 = .ok (.iload_n 1, 1) := by decide +kernel
theorem dX3_setPlanned_7 : decode cX3_setPlanned 7 = .ok (.putfield 9, 3) := by decide +kernel
theorem dX3_setPlanned_10 : decode cX3_setPlanned 10 = .ok (.aload_n 0, 1) := by decide +kernel
theorem dX3_setPlanned_11 : decode cX3_setPlanned 11 = .ok (.iload_n 2, 1) := by decide +kernel
theorem dX3_setPlanned_12 : decode cX3_setPlanned 12 = .ok (.putfield 15, 3) := by decide +kernel
theorem dX3_setPlanned_15 : decode cX3_setPlanned 15 = .ok (.aload_n 0, 1) := by decide +kernel
theorem dX3_setPlanned_16 : decode cX3_setPlanned 16 = .ok (.iload_n 2, 1) := by decide +kernel
theorem dX3_setPlanned_17 : decode cX3_setPlanned 17 = .ok (.aload_n 0, 1) := by decide +kernel
theorem dX3_setPlanned_18 : decode cX3_setPlanned 18 = .ok (.invokevirtual 45, 3) := by decide +kernel
theorem dX3_setPlanned_21 : decode cX3_setPlanned 21 = .ok (.iadd, 1) := by decide +kernel
theorem dX3_setPlanned_22 : decode cX3_setPlanned 22 = .ok (.putfield 18, 3) := by decide +kernel
theorem dX3_setPlanned_25 : decode cX3_setPlanned 25 = .ok (.return_, 1) := by decide +kernel
theorem dX3_tripHours_0 : decode cX3_tripHours 0 = .ok (.aload_n 0, 1) := by decide +kernel
theorem dX3_tripHours_1 : decode cX3_tripHours 1 = .ok (.getfield 21, 3) := by decide +kernel
theorem dX3_tripHours_4 : decode cX3_tripHours 4 = .ok (.iconst 2, 1) := by decide +kernel
theorem dX3_tripHours_5 : decode cX3_tripHours 5 = .ok (.iadd, 1) := by decide +kernel
theorem dX3_tripHours_6 : decode cX3_tripHours 6 = .ok (.ireturn, 1) := by decide +kernel
theorem dX3_origin_0 : decode cX3_origin 0 = .ok (.aload_n 0, 1) := by decide +kernel
theorem dX3_origin_1 : decode cX3_origin 1 = .ok (.getfield 24, 3) := by decide +kernel
theorem dX3_origin_4 : decode cX3_origin 4 = .ok (.iconst 1, 1) := by decide +kernel
theorem dX3_origin_5 : decode cX3_origin 5 = .ok (.if_icmp .ne 7, 3) := by decide +kernel
theorem dX3_origin_8 : decode cX3_origin 8 = .ok (.iconst 0, 1) := by decide +kernel
theorem dX3_origin_9 : decode cX3_origin 9 = .ok (.goto 4, 3) := by decide +kernel
theorem dX3_origin_12 : decode cX3_origin 12 = .ok (.iconst 1, 1) := by decide +kernel
theorem dX3_origin_13 : decode cX3_origin 13 = .ok (.ireturn, 1) := by decide +kernel
theorem dX3_goal_0 : decode cX3_goal 0 = .ok (.aload_n 0, 1) := by decide +kernel
theorem dX3_goal_1 : decode cX3_goal 1 = .ok (.getfield 24, 3) := by decide +kernel
theorem dX3_goal_4 : decode cX3_goal 4 = .ok (.iconst 1, 1) := by decide +kernel
theorem dX3_goal_5 : decode cX3_goal 5 = .ok (.if_icmp .ne 7, 3) := by decide +kernel
theorem dX3_goal_8 : decode cX3_goal 8 = .ok (.iconst 1, 1) := by decide +kernel
theorem dX3_goal_9 : decode cX3_goal 9 = .ok (.goto 4, 3) := by decide +kernel
theorem dX3_goal_12 : decode cX3_goal 12 = .ok (.iconst 0, 1) := by decide +kernel
theorem dX3_goal_13 : decode cX3_goal 13 = .ok (.ireturn, 1) := by decide +kernel
theorem dX3_hasTrip_0 : decode cX3_hasTrip 0 = .ok (.aload_n 0, 1) := by decide +kernel
theorem dX3_hasTrip_1 : decode cX3_hasTrip 1 = .ok (.getfield 42, 3) := by decide +kernel
theorem dX3_hasTrip_4 : decode cX3_hasTrip 4 = .ok (.iconst 1, 1) := by decide +kernel
theorem dX3_hasTrip_5 : decode cX3_hasTrip 5 = .ok (.if_icmp .eq 11, 3) := by decide +kernel
theorem dX3_hasTrip_8 : decode cX3_hasTrip 8 = .ok (.aload_n 0, 1) := by decide +kernel
theorem dX3_hasTrip_9 : decode cX3_hasTrip 9 = .ok (.getfield 42, 3) := by decide +kernel
theorem dX3_hasTrip_12 : decode cX3_hasTrip 12 = .ok (.iconst 2, 1) := by decide +kernel
theorem dX3_hasTrip_13 : decode cX3_hasTrip 13 = .ok (.if_icmp .ne 7, 3) := by decide +kernel
theorem dX3_hasTrip_16 : decode cX3_hasTrip 16 = .ok (.iconst 1, 1) := by decide +kernel
theorem dX3_hasTrip_17 : decode cX3_hasTrip 17 = .ok (.goto 4, 3) := by decide +kernel
theorem dX3_hasTrip_20 : decode cX3_hasTrip 20 = .ok (.iconst 0, 1) := by decide +kernel
theorem dX3_hasTrip_21 : decode cX3_hasTrip 21 = .ok (.ireturn, 1) := by decide +kernel
theorem dX3_reasonAgainstDelay_0 : decode cX3_reasonAgainstDelay 0 = .ok (.aload_n 0, 1) := by decide +kernel
theorem dX3_reasonAgainstDelay_1 : decode cX3_reasonAgainstDelay 1 = .ok (.getfield 42, 3) := by decide +kernel
theorem dX3_reasonAgainstDelay_4 : decode cX3_reasonAgainstDelay 4 = .ok (.ifCond .eq 5, 3) := by decide +kernel
theorem dX3_reasonAgainstDelay_7 : decode cX3_reasonAgainstDelay 7 = .ok (.iconst 1, 1) := by decide +kernel
theorem dX3_reasonAgainstDelay_8 : decode cX3_reasonAgainstDelay 8 = .ok (.ireturn, 1) := by decide +kernel
theorem dX3_reasonAgainstDelay_9 : decode cX3_reasonAgainstDelay 9 = .ok (.aload_n 0, 1) := by decide +kernel
theorem dX3_reasonAgainstDelay_10 : decode cX3_reasonAgainstDelay 10 = .ok (.getfield 36, 3) := by decide +kernel
theorem dX3_reasonAgainstDelay_13 : decode cX3_reasonAgainstDelay 13 = .ok (.iconst 2, 1) := by decide +kernel
theorem dX3_reasonAgainstDelay_14 : decode cX3_reasonAgainstDelay 14 = .ok (.if_icmp .lt 8, 3) := by decide +kernel
theorem dX3_reasonAgainstDelay_17 : decode cX3_reasonAgainstDelay 17 = .ok (.bipush 15, 2) := by decide +kernel
theorem dX3_reasonAgainstDelay_19 : decode cX3_reasonAgainstDelay 19 = .ok (.goto 4, 3) := by decide +kernel
theorem dX3_reasonAgainstDelay_22 : decode cX3_reasonAgainstDelay 22 = .ok (.iconst 0, 1) := by decide +kernel
theorem dX3_reasonAgainstDelay_23 : decode cX3_reasonAgainstDelay 23 = .ok (.ireturn, 1) := by decide +kernel
theorem dX3_delay_0 : decode cX3_delay 0 = .ok (.aload_n 0, 1) := by decide +kernel
theorem dX3_delay_1 : decode cX3_delay 1 = .ok (.sipush 900, 3) := by decide +kernel
theorem dX3_delay_4 : decode cX3_delay 4 = .ok (.aload_n 0, 1) := by decide +kernel
theorem dX3_delay_5 : decode cX3_delay 5 = .ok (.getfield 33, 3) := by decide +kernel
theorem dX3_delay_8 : decode cX3_delay 8 = .ok (.iload_n 1, 1) := by decide +kernel
theorem dX3_delay_9 : decode cX3_delay 9 = .ok (.iadd, 1) := by decide +kernel
theorem dX3_delay_10 : decode cX3_delay 10 = .ok (.invokestatic 49, 3) := by decide +kernel
theorem dX3_delay_13 : decode cX3_delay 13 = .ok (.putfield 33, 3) := by decide +kernel
theorem dX3_delay_16 : decode cX3_delay 16 = .ok (.aload_n 0, 1) := by decide +kernel
theorem dX3_delay_17 : decode cX3_delay 17 = .ok (.dup, 1) := by decide +kernel
theorem dX3_delay_18 : decode cX3_delay 18 = .ok (.getfield 36, 3) := by decide +kernel
theorem dX3_delay_21 : decode cX3_delay 21 = .ok (.iconst 1, 1) := by decide +kernel
theorem dX3_delay_22 : decode cX3_delay 22 = .ok (.iadd, 1) := by decide +kernel
theorem dX3_delay_23 : decode cX3_delay 23 = .ok (.putfield 36, 3) := by decide +kernel
theorem dX3_delay_26 : decode cX3_delay 26 = .ok (.return_, 1) := by decide +kernel
theorem dX3_isMoreUrgentThan_0 : decode cX3_isMoreUrgentThan 0 = .ok (.aload_n 0, 1) := by decide +kernel
theorem dX3_isMoreUrgentThan_1 : decode cX3_isMoreUrgentThan 1 = .ok (.getfield 33, 3) := by decide +kernel
theorem dX3_isMoreUrgentThan_4 : decode cX3_isMoreUrgentThan 4 = .ok (.aload_n 1, 1) := by decide +kernel
theorem dX3_isMoreUrgentThan_5 : decode cX3_isMoreUrgentThan 5 = .ok (.getfield 33, 3) := by decide +kernel
theorem dX3_isMoreUrgentThan_8 : decode cX3_isMoreUrgentThan 8 = .ok (.if_icmp .eq 20, 3) := by decide +kernel
theorem dX3_isMoreUrgentThan_11 : decode cX3_isMoreUrgentThan 11 = .ok (.aload_n 0, 1) := by decide +kernel
theorem dX3_isMoreUrgentThan_12 : decode cX3_isMoreUrgentThan 12 = .ok (.getfield 33, 3) := by decide +kernel
theorem dX3_isMoreUrgentThan_15 : decode cX3_isMoreUrgentThan 15 = .ok (.aload_n 1, 1) := by decide +kernel
theorem dX3_isMoreUrgentThan_16 : decode cX3_isMoreUrgentThan 16 = .ok (.getfield 33, 3) := by decide +kernel
theorem dX3_isMoreUrgentThan_19 : decode cX3_isMoreUrgentThan 19 = .ok (.if_icmp .ge 7, 3) := by decide +kernel
theorem dX3_isMoreUrgentThan_22 : decode cX3_isMoreUrgentThan 22 = .ok (.iconst 1, 1) := by decide +kernel
theorem dX3_isMoreUrgentThan_23 : decode cX3_isMoreUrgentThan 23 = .ok (.goto 4, 3) := by decide +kernel
theorem dX3_isMoreUrgentThan_26 : decode cX3_isMoreUrgentThan 26 = .ok (.iconst 0, 1) := by decide +kernel
theorem dX3_isMoreUrgentThan_27 : decode cX3_isMoreUrgentThan 27 = .ok (.ireturn, 1) := by decide +kernel
theorem dX3_isMoreUrgentThan_28 : decode cX3_isMoreUrgentThan 28 = .ok (.aload_n 0, 1) := by decide +kernel
theorem dX3_isMoreUrgentThan_29 : decode cX3_isMoreUrgentThan 29 = .ok (.getfield 30, 3) := by decide +kernel
theorem dX3_isMoreUrgentThan_32 : decode cX3_isMoreUrgentThan 32 = .ok (.aload_n 1, 1) := by decide +kernel
theorem dX3_isMoreUrgentThan_33 : decode cX3_isMoreUrgentThan 33 = .ok (.getfield 30, 3) := by decide +kernel
theorem dX3_isMoreUrgentThan_36 : decode cX3_isMoreUrgentThan 36 = .ok (.if_icmp .ge 7, 3) := by decide +kernel
theorem dX3_isMoreUrgentThan_39 : decode cX3_isMoreUrgentThan 39 = .ok (.iconst 1, 1) := by decide +kernel
theorem dX3_isMoreUrgentThan_40 : decode cX3_isMoreUrgentThan 40 = .ok (.goto 4, 3) := by decide +kernel
theorem dX3_isMoreUrgentThan_43 : decode cX3_isMoreUrgentThan 43 = .ok (.iconst 0, 1) := by decide +kernel
theorem dX3_isMoreUrgentThan_44 : decode cX3_isMoreUrgentThan 44 = .ok (.ireturn, 1) := by decide +kernel
theorem dX4_init_0 : decode cX4_init 0 = .ok (.aload_n 0, 1) := by decide +kernel
theorem dX4_init_1 : decode cX4_init 1 = .ok (.invokespecial 3, 3) := by decide +kernel
theorem dX4_init_4 : decode cX4_init 4 = .ok (.return_, 1) := by decide +kernel
theorem dX4_start_0 : decode cX4_start 0 = .ok (.aload_n 0, 1) := by decide +kernel
theorem dX4_start_1 : decode cX4_start 1 = .ok (.iload_n 1, 1) := by decide +kernel
theorem dX4_start_2 : decode cX4_start 2 = .ok (.putfield 9, 3) := by decide +kernel
theorem dX4_start_5 : decode cX4_start 5 = .ok (.aload_n 0, 1) := by decide +kernel
theorem dX4_start_6 : decode cX4_start 6 = .ok (.iconst 0, 1) := by decide +kernel
theorem dX4_start_7 : decode cX4_start 7 = .ok (.putfield 15, 3) := by decide +kernel
theorem dX4_start_10 : decode cX4_start 10 = .ok (.aload_n 0, 1) := by decide +kernel
theorem dX4_start_11 : decode cX4_start 11 = .ok (.aconst_null, 1) := by decide +kernel
theorem dX4_start_12 : decode cX4_start 12 = .ok (.putfield 18, 3) := by decide +kernel
theorem dX4_start_15 : decode cX4_start 15 = .ok (.return_, 1) := by decide +kernel
theorem dX4_copyFrom_0 : decode cX4_copyFrom 0 = .ok (.aload_n 0, 1) := by decide +kernel
theorem dX4_copyFrom_1 : decode cX4_copyFrom 1 = .ok (.aload_n 1, 1) := by decide +kernel
theorem dX4_copyFrom_2 : decode cX4_copyFrom 2 = .ok (.getfield 9, 3) := by decide +kernel
theorem dX4_copyFrom_5 : decode cX4_copyFrom 5 = .ok (.putfield 9, 3) := by decide +kernel
theorem dX4_copyFrom_8 : decode cX4_copyFrom 8 = .ok (.aload_n 0, 1) := by decide +kernel
theorem dX4_copyFrom_9 : decode cX4_copyFrom 9 = .ok (.aload_n 1, 1) := by decide +kernel
theorem dX4_copyFrom_10 : decode cX4_copyFrom 10 = .ok (.getfield 15, 3) := by decide +kernel
theorem dX4_copyFrom_13 : decode cX4_copyFrom 13 = .ok (.putfield 15, 3) := by decide +kernel
theorem dX4_copyFrom_16 : decode cX4_copyFrom 16 = .ok (.aload_n 0, 1) := by decide +kernel
theorem dX4_copyFrom_17 : decode cX4_copyFrom 17 = .ok (.aload_n 1, 1) := by decide +kernel
theorem dX4_copyFrom_18 : decode cX4_copyFrom 18 = .ok (.getfield 18, 3) := by decide +kernel
theorem dX4_copyFrom_21 : decode cX4_copyFrom 21 = .ok (.putfield 18, 3) := by decide +kernel
theorem dX4_copyFrom_24 : decode cX4_copyFrom 24 = .ok (.return_, 1) := by decide +kernel
theorem dX4_add_0 : decode cX4_add 0 = .ok (.aload_n 0, 1) := by decide +kernel
theorem dX4_add_1 : decode cX4_add 1 = .ok (.new 22, 3) := by decide +kernel
theorem dX4_add_4 : decode cX4_add 4 = .ok (.dup, 1) := by decide +kernel
theorem dX4_add_5 : decode cX4_add 5 = .ok (.aload_n 0, 1) := by decide +kernel
theorem dX4_add_6 : decode cX4_add 6 = .ok (.getfield 18, 3) := by decide +kernel
theorem dX4_add_9 : decode cX4_add 9 = .ok (.iload_n 1, 1) := by decide +kernel
theorem dX4_add_10 : decode cX4_add 10 = .ok (.iload_n 2, 1) := by decide +kernel
theorem dX4_add_11 : decode cX4_add 11 = .ok (.iload_n 3, 1) := by decide +kernel
theorem dX4_add_12 : decode cX4_add 12 = .ok (.iload 4, 2) := by decide +kernel
theorem dX4_add_14 : decode cX4_add 14 = .ok (.iload 5, 2) := by decide +kernel
theorem dX4_add_16 : decode cX4_add 16 = .ok (.invokespecial 24, 3) := by decide +kernel
theorem dX4_add_19 : decode cX4_add 19 = .ok (.putfield 18, 3) := by decide +kernel
theorem dX4_add_22 : decode cX4_add 22 = .ok (.return_, 1) := by decide +kernel
theorem dX4_removeLast_0 : decode cX4_removeLast 0 = .ok (.aload_n 0, 1) := by decide +kernel
theorem dX4_removeLast_1 : decode cX4_removeLast 1 = .ok (.getfield 18, 3) := by decide +kernel
theorem dX4_removeLast_4 : decode cX4_removeLast 4 = .ok (.ifnull 14, 3) := by decide +kernel
theorem dX4_removeLast_7 : decode cX4_removeLast 7 = .ok (.aload_n 0, 1) := by decide +kernel
theorem dX4_removeLast_8 : decode cX4_removeLast 8 = .ok (.aload_n 0, 1) := by decide +kernel
theorem dX4_removeLast_9 : decode cX4_removeLast 9 = .ok (.getfield 18, 3) := by decide +kernel
theorem dX4_removeLast_12 : decode cX4_removeLast 12 = .ok (.getfield 27, 3) := by decide +kernel
theorem dX4_removeLast_15 : decode cX4_removeLast 15 = .ok (.putfield 18, 3) := by decide +kernel
theorem dX4_removeLast_18 : decode cX4_removeLast 18 = .ok (.return_, 1) := by decide +kernel
theorem dX4_credit_0 : decode cX4_credit 0 = .ok (.iload_n 1, 1) := by decide +kernel
theorem dX4_credit_1 : decode cX4_credit 1 = .ok (.aload_n 0, 1) := by decide +kernel
theorem dX4_credit_2 : decode cX4_credit 2 = .ok (.getfield 9, 3) := by decide +kernel
theorem dX4_credit_5 : decode cX4_credit 5 = .ok (.if_icmp .eq 4, 3) := by decide +kernel
theorem dX4_credit_8 : decode cX4_credit 8 = .ok (.return_, 1) := by decide +kernel
theorem dX4_credit_9 : decode cX4_credit 9 = .ok (.aload_n 0, 1) := by decide +kernel
theorem dX4_credit_10 : decode cX4_credit 10 = .ok (.dup, 1) := by decide +kernel
theorem dX4_credit_11 : decode cX4_credit 11 = .ok (.getfield 15, 3) := by decide +kernel
theorem dX4_credit_14 : decode cX4_credit 14 = .ok (.iconst 1, 1) := by decide +kernel
theorem dX4_credit_15 : decode cX4_credit 15 = .ok (.iadd, 1) := by decide +kernel
theorem dX4_credit_16 : decode cX4_credit 16 = .ok (.putfield 15, 3) := by decide +kernel
theorem dX4_credit_19 : decode cX4_credit 19 = .ok (.aload_n 0, 1) := by decide +kernel
theorem dX4_credit_20 : decode cX4_credit 20 = .ok (.getfield 15, 3) := by decide +kernel
theorem dX4_credit_23 : decode cX4_credit 23 = .ok (.iload_n 2, 1) := by decide +kernel
theorem dX4_credit_24 : decode cX4_credit 24 = .ok (.if_icmp .lt 26, 3) := by decide +kernel
theorem dX4_credit_27 : decode cX4_credit 27 = .ok (.aload_n 0, 1) := by decide +kernel
theorem dX4_credit_28 : decode cX4_credit 28 = .ok (.getfield 9, 3) := by decide +kernel
theorem dX4_credit_31 : decode cX4_credit 31 = .ok (.iconst 4, 1) := by decide +kernel
theorem dX4_credit_32 : decode cX4_credit 32 = .ok (.if_icmp .ge 18, 3) := by decide +kernel
theorem dX4_credit_35 : decode cX4_credit 35 = .ok (.aload_n 0, 1) := by decide +kernel
theorem dX4_credit_36 : decode cX4_credit 36 = .ok (.dup, 1) := by decide +kernel
theorem dX4_credit_37 : decode cX4_credit 37 = .ok (.getfield 9, 3) := by decide +kernel
theorem dX4_credit_40 : decode cX4_credit 40 = .ok (.iconst 1, 1) := by decide +kernel
theorem dX4_credit_41 : decode cX4_credit 41 = .ok (.iadd, 1) := by decide +kernel
theorem dX4_credit_42 : decode cX4_credit 42 = .ok (.putfield 9, 3) := by decide +kernel
theorem dX4_credit_45 : decode cX4_credit 45 = .ok (.aload_n 0, 1) := by decide +kernel
theorem dX4_credit_46 : decode cX4_credit 46 = .ok (.iconst 0, 1) := by decide +kernel
theorem dX4_credit_47 : decode cX4_credit 47 = .ok (.putfield 15, 3) := by decide +kernel
theorem dX4_credit_50 : decode cX4_credit 50 = .ok (.return_, 1) := by decide +kernel
theorem dX4_legs_0 : decode cX4_legs 0 = .ok (.aload_n 0, 1) := by decide +kernel
theorem dX4_legs_1 : decode cX4_legs 1 = .ok (.getfield 18, 3) := by decide +kernel
theorem dX4_legs_4 : decode cX4_legs 4 = .ok (.ifnonnull 7, 3) := by decide +kernel
theorem dX4_legs_7 : decode cX4_legs 7 = .ok (.iconst 0, 1) := by decide +kernel
theorem dX4_legs_8 : decode cX4_legs 8 = .ok (.goto 12, 3) := by decide +kernel
theorem dX4_legs_11 : decode cX4_legs 11 = .ok (.aload_n 0, 1) := by decide +kernel
theorem dX4_legs_12 : decode cX4_legs 12 = .ok (.getfield 18, 3) := by decide +kernel
theorem dX4_legs_15 : decode cX4_legs 15 = .ok (.getfield 30, 3) := by decide +kernel
theorem dX4_legs_18 : decode cX4_legs 18 = .ok (.iconst 1, 1) := by decide +kernel
theorem dX4_legs_19 : decode cX4_legs 19 = .ok (.iadd, 1) := by decide +kernel
theorem dX4_legs_20 : decode cX4_legs 20 = .ok (.ireturn, 1) := by decide +kernel
theorem dX4_freeFrom_0 : decode cX4_freeFrom 0 = .ok (.aload_n 0, 1) := by decide +kernel
theorem dX4_freeFrom_1 : decode cX4_freeFrom 1 = .ok (.getfield 18, 3) := by decide +kernel
theorem dX4_freeFrom_4 : decode cX4_freeFrom 4 = .ok (.ifnonnull 7, 3) := by decide +kernel
theorem dX4_freeFrom_7 : decode cX4_freeFrom 7 = .ok (.iconst 0, 1) := by decide +kernel
theorem dX4_freeFrom_8 : decode cX4_freeFrom 8 = .ok (.goto 10, 3) := by decide +kernel
theorem dX4_freeFrom_11 : decode cX4_freeFrom 11 = .ok (.aload_n 0, 1) := by decide +kernel
theorem dX4_freeFrom_12 : decode cX4_freeFrom 12 = .ok (.getfield 18, 3) := by decide +kernel
theorem dX4_freeFrom_15 : decode cX4_freeFrom 15 = .ok (.getfield 33, 3) := by decide +kernel
theorem dX4_freeFrom_18 : decode cX4_freeFrom 18 = .ok (.ireturn, 1) := by decide +kernel
theorem dX4_lastGoal_0 : decode cX4_lastGoal 0 = .ok (.aload_n 0, 1) := by decide +kernel
theorem dX4_lastGoal_1 : decode cX4_lastGoal 1 = .ok (.getfield 18, 3) := by decide +kernel
theorem dX4_lastGoal_4 : decode cX4_lastGoal 4 = .ok (.ifnonnull 7, 3) := by decide +kernel
theorem dX4_lastGoal_7 : decode cX4_lastGoal 7 = .ok (.iconst 0, 1) := by decide +kernel
theorem dX4_lastGoal_8 : decode cX4_lastGoal 8 = .ok (.goto 10, 3) := by decide +kernel
theorem dX4_lastGoal_11 : decode cX4_lastGoal 11 = .ok (.aload_n 0, 1) := by decide +kernel
theorem dX4_lastGoal_12 : decode cX4_lastGoal 12 = .ok (.getfield 18, 3) := by decide +kernel
theorem dX4_lastGoal_15 : decode cX4_lastGoal 15 = .ok (.getfield 36, 3) := by decide +kernel
theorem dX4_lastGoal_18 : decode cX4_lastGoal 18 = .ok (.ireturn, 1) := by decide +kernel
theorem dX4_legAt_0 : decode cX4_legAt 0 = .ok (.aload_n 0, 1) := by decide +kernel
theorem dX4_legAt_1 : decode cX4_legAt 1 = .ok (.getfield 18, 3) := by decide +kernel
theorem dX4_legAt_4 : decode cX4_legAt 4 = .ok (.astore_n 2, 1) := by decide +kernel
theorem dX4_legAt_5 : decode cX4_legAt 5 = .ok (.aload_n 2, 1) := by decide +kernel
theorem dX4_legAt_6 : decode cX4_legAt 6 = .ok (.ifnull 21, 3) := by decide +kernel
theorem dX4_legAt_9 : decode cX4_legAt 9 = .ok (.aload_n 2, 1) := by decide +kernel
theorem dX4_legAt_10 : decode cX4_legAt 10 = .ok (.getfield 30, 3) := by decide +kernel
theorem dX4_legAt_13 : decode cX4_legAt 13 = .ok (.iload_n 1, 1) := by decide +kernel
theorem dX4_legAt_14 : decode cX4_legAt 14 = .ok (.if_icmp .ne 5, 3) := by decide +kernel
theorem dX4_legAt_17 : decode cX4_legAt 17 = .ok (.aload_n 2, 1) := by decide +kernel
theorem dX4_legAt_18 : decode cX4_legAt 18 = .ok (.areturn, 1) := by decide +kernel
theorem dX4_legAt_19 : decode cX4_legAt 19 = .ok (.aload_n 2, 1) := by decide +kernel
theorem dX4_legAt_20 : decode cX4_legAt 20 = .ok (.getfield 27, 3) := by decide +kernel
theorem dX4_legAt_23 : decode cX4_legAt 23 = .ok (.astore_n 2, 1) := by decide +kernel
theorem dX4_legAt_24 : decode cX4_legAt 24 = .ok (.goto (-19), 3) := by decide +kernel
theorem dX4_legAt_27 : decode cX4_legAt 27 = .ok (.aconst_null, 1) := by decide +kernel
theorem dX4_legAt_28 : decode cX4_legAt 28 = .ok (.areturn, 1) := by decide +kernel
theorem dX4_lastTrip_0 : decode cX4_lastTrip 0 = .ok (.aload_n 0, 1) := by decide +kernel
theorem dX4_lastTrip_1 : decode cX4_lastTrip 1 = .ok (.getfield 18, 3) := by decide +kernel
theorem dX4_lastTrip_4 : decode cX4_lastTrip 4 = .ok (.astore_n 1, 1) := by decide +kernel
theorem dX4_lastTrip_5 : decode cX4_lastTrip 5 = .ok (.aload_n 1, 1) := by decide +kernel
theorem dX4_lastTrip_6 : decode cX4_lastTrip 6 = .ok (.ifnull 20, 3) := by decide +kernel
theorem dX4_lastTrip_9 : decode cX4_lastTrip 9 = .ok (.aload_n 1, 1) := by decide +kernel
theorem dX4_lastTrip_10 : decode cX4_lastTrip 10 = .ok (.getfield 39, 3) := by decide +kernel
theorem dX4_lastTrip_13 : decode cX4_lastTrip 13 = .ok (.ifCond .ne 5, 3) := by decide +kernel
theorem dX4_lastTrip_16 : decode cX4_lastTrip 16 = .ok (.aload_n 1, 1) := by decide +kernel
theorem dX4_lastTrip_17 : decode cX4_lastTrip 17 = .ok (.areturn, 1) := by decide +kernel
theorem dX4_lastTrip_18 : decode cX4_lastTrip 18 = .ok (.aload_n 1, 1) := by decide +kernel
theorem dX4_lastTrip_19 : decode cX4_lastTrip 19 = .ok (.getfield 27, 3) := by decide +kernel
theorem dX4_lastTrip_22 : decode cX4_lastTrip 22 = .ok (.astore_n 1, 1) := by decide +kernel
theorem dX4_lastTrip_23 : decode cX4_lastTrip 23 = .ok (.goto (-18), 3) := by decide +kernel
theorem dX4_lastTrip_26 : decode cX4_lastTrip 26 = .ok (.aconst_null, 1) := by decide +kernel
theorem dX4_lastTrip_27 : decode cX4_lastTrip 27 = .ok (.areturn, 1) := by decide +kernel
theorem dX4_endsWithTripFor_0 : decode cX4_endsWithTripFor 0 = .ok (.aload_n 0, 1) := by decide +kernel
theorem dX4_endsWithTripFor_1 : decode cX4_endsWithTripFor 1 = .ok (.getfield 18, 3) := by decide +kernel
theorem dX4_endsWithTripFor_4 : decode cX4_endsWithTripFor 4 = .ok (.ifnull 28, 3) := by decide +kernel
theorem dX4_endsWithTripFor_7 : decode cX4_endsWithTripFor 7 = .ok (.aload_n 0, 1) := by decide +kernel
theorem dX4_endsWithTripFor_8 : decode cX4_endsWithTripFor 8 = .ok (.getfield 18, 3) := by decide +kernel
theorem dX4_endsWithTripFor_11 : decode cX4_endsWithTripFor 11 = .ok (.getfield 39, 3) := by decide +kernel
theorem dX4_endsWithTripFor_14 : decode cX4_endsWithTripFor 14 = .ok (.ifCond .ne 18, 3) := by decide +kernel
theorem dX4_endsWithTripFor_17 : decode cX4_endsWithTripFor 17 = .ok (.aload_n 0, 1) := by decide +kernel
theorem dX4_endsWithTripFor_18 : decode cX4_endsWithTripFor 18 = .ok (.getfield 18, 3) := by decide +kernel
theorem dX4_endsWithTripFor_21 : decode cX4_endsWithTripFor 21 = .ok (.getfield 42, 3) := by decide +kernel
theorem dX4_endsWithTripFor_24 : decode cX4_endsWithTripFor 24 = .ok (.iload_n 1, 1) := by decide +kernel
theorem dX4_endsWithTripFor_25 : decode cX4_endsWithTripFor 25 = .ok (.if_icmp .ne 7, 3) := by decide +kernel
theorem dX4_endsWithTripFor_28 : decode cX4_endsWithTripFor 28 = .ok (.iconst 1, 1) := by decide +kernel
theorem dX4_endsWithTripFor_29 : decode cX4_endsWithTripFor 29 = .ok (.goto 4, 3) := by decide +kernel
theorem dX4_endsWithTripFor_32 : decode cX4_endsWithTripFor 32 = .ok (.iconst 0, 1) := by decide +kernel
theorem dX4_endsWithTripFor_33 : decode cX4_endsWithTripFor 33 = .ok (.ireturn, 1) := by decide +kernel
theorem dX4_tripHours_0 : decode cX4_tripHours 0 = .ok (.iconst 0, 1) := by decide +kernel
theorem dX4_tripHours_1 : decode cX4_tripHours 1 = .ok (.istore_n 2, 1) := by decide +kernel
theorem dX4_tripHours_2 : decode cX4_tripHours 2 = .ok (.aload_n 0, 1) := by decide +kernel
theorem dX4_tripHours_3 : decode cX4_tripHours 3 = .ok (.getfield 18, 3) := by decide +kernel
theorem dX4_tripHours_6 : decode cX4_tripHours 6 = .ok (.astore_n 3, 1) := by decide +kernel
theorem dX4_tripHours_7 : decode cX4_tripHours 7 = .ok (.aload_n 3, 1) := by decide +kernel
theorem dX4_tripHours_8 : decode cX4_tripHours 8 = .ok (.ifnull 42, 3) := by decide +kernel
theorem dX4_tripHours_11 : decode cX4_tripHours 11 = .ok (.aload_n 3, 1) := by decide +kernel
theorem dX4_tripHours_12 : decode cX4_tripHours 12 = .ok (.getfield 39, 3) := by decide +kernel
theorem dX4_tripHours_15 : decode cX4_tripHours 15 = .ok (.ifCond .ne 27, 3) := by decide +kernel
theorem dX4_tripHours_18 : decode cX4_tripHours 18 = .ok (.aload_n 3, 1) := by decide +kernel
theorem dX4_tripHours_19 : decode cX4_tripHours 19 = .ok (.getfield 45, 3) := by decide +kernel
theorem dX4_tripHours_22 : decode cX4_tripHours 22 = .ok (.iload_n 1, 1) := by decide +kernel
theorem dX4_tripHours_23 : decode cX4_tripHours 23 = .ok (.if_icmp .ge 19, 3) := by decide +kernel
theorem dX4_tripHours_26 : decode cX4_tripHours 26 = .ok (.iload_n 2, 1) := by decide +kernel
theorem dX4_tripHours_27 : decode cX4_tripHours 27 = .ok (.aload_n 3, 1) := by decide +kernel
theorem dX4_tripHours_28 : decode cX4_tripHours 28 = .ok (.getfield 33, 3) := by decide +kernel
theorem dX4_tripHours_31 : decode cX4_tripHours 31 = .ok (.iload_n 1, 1) := by decide +kernel
theorem dX4_tripHours_32 : decode cX4_tripHours 32 = .ok (.invokestatic 48, 3) := by decide +kernel
theorem dX4_tripHours_35 : decode cX4_tripHours 35 = .ok (.aload_n 3, 1) := by decide +kernel
theorem dX4_tripHours_36 : decode cX4_tripHours 36 = .ok (.getfield 45, 3) := by decide +kernel
theorem dX4_tripHours_39 : decode cX4_tripHours 39 = .ok (.isub, 1) := by decide +kernel
theorem dX4_tripHours_40 : decode cX4_tripHours 40 = .ok (.iadd, 1) := by decide +kernel
theorem dX4_tripHours_41 : decode cX4_tripHours 41 = .ok (.istore_n 2, 1) := by decide +kernel
theorem dX4_tripHours_42 : decode cX4_tripHours 42 = .ok (.aload_n 3, 1) := by decide +kernel
theorem dX4_tripHours_43 : decode cX4_tripHours 43 = .ok (.getfield 27, 3) := by decide +kernel
theorem dX4_tripHours_46 : decode cX4_tripHours 46 = .ok (.astore_n 3, 1) := by decide +kernel
theorem dX4_tripHours_47 : decode cX4_tripHours 47 = .ok (.goto (-40), 3) := by decide +kernel
theorem dX4_tripHours_50 : decode cX4_tripHours 50 = .ok (.iload_n 2, 1) := by decide +kernel
theorem dX4_tripHours_51 : decode cX4_tripHours 51 = .ok (.ireturn, 1) := by decide +kernel
theorem dX4_placeAt_0 : decode cX4_placeAt 0 = .ok (.aload_n 0, 1) := by decide +kernel
theorem dX4_placeAt_1 : decode cX4_placeAt 1 = .ok (.getfield 18, 3) := by decide +kernel
theorem dX4_placeAt_4 : decode cX4_placeAt 4 = .ok (.astore_n 2, 1) := by decide +kernel
theorem dX4_placeAt_5 : decode cX4_placeAt 5 = .ok (.aload_n 2, 1) := by decide +kernel
theorem dX4_placeAt_6 : decode cX4_placeAt 6 = .ok (.ifnull 34, 3) := by decide +kernel
theorem dX4_placeAt_9 : decode cX4_placeAt 9 = .ok (.iload_n 1, 1) := by decide +kernel
theorem dX4_placeAt_10 : decode cX4_placeAt 10 = .ok (.aload_n 2, 1) := by decide +kernel
theorem dX4_placeAt_11 : decode cX4_placeAt 11 = .ok (.getfield 33, 3) := by decide +kernel
theorem dX4_placeAt_14 : decode cX4_placeAt 14 = .ok (.if_icmp .lt 8, 3) := by decide +kernel
theorem dX4_placeAt_17 : decode cX4_placeAt 17 = .ok (.aload_n 2, 1) := by decide +kernel
theorem dX4_placeAt_18 : decode cX4_placeAt 18 = .ok (.getfield 36, 3) := by decide +kernel
theorem dX4_placeAt_21 : decode cX4_placeAt 21 = .ok (.ireturn, 1) := by decide +kernel
theorem dX4_placeAt_22 : decode cX4_placeAt 22 = .ok (.iload_n 1, 1) := by decide +kernel
theorem dX4_placeAt_23 : decode cX4_placeAt 23 = .ok (.aload_n 2, 1) := by decide +kernel
theorem dX4_placeAt_24 : decode cX4_placeAt 24 = .ok (.getfield 45, 3) := by decide +kernel
theorem dX4_placeAt_27 : decode cX4_placeAt 27 = .ok (.if_icmp .lt 5, 3) := by decide +kernel
theorem dX4_placeAt_30 : decode cX4_placeAt 30 = .ok (.iconst (-1), 1) := by decide +kernel
theorem dX4_placeAt_31 : decode cX4_placeAt 31 = .ok (.ireturn, 1) := by decide +kernel
theorem dX4_placeAt_32 : decode cX4_placeAt 32 = .ok (.aload_n 2, 1) := by decide +kernel
theorem dX4_placeAt_33 : decode cX4_placeAt 33 = .ok (.getfield 27, 3) := by decide +kernel
theorem dX4_placeAt_36 : decode cX4_placeAt 36 = .ok (.astore_n 2, 1) := by decide +kernel
theorem dX4_placeAt_37 : decode cX4_placeAt 37 = .ok (.goto (-32), 3) := by decide +kernel
theorem dX4_placeAt_40 : decode cX4_placeAt 40 = .ok (.iconst 0, 1) := by decide +kernel
theorem dX4_placeAt_41 : decode cX4_placeAt 41 = .ok (.ireturn, 1) := by decide +kernel
theorem dX4_placeHourByHour_0 : decode cX4_placeHourByHour 0 = .ok (.iconst 0, 1) := by decide +kernel
theorem dX4_placeHourByHour_1 : decode cX4_placeHourByHour 1 = .ok (.istore_n 2, 1) := by decide +kernel
theorem dX4_placeHourByHour_2 : decode cX4_placeHourByHour 2 = .ok (.aload_n 0, 1) := by decide +kernel
theorem dX4_placeHourByHour_3 : decode cX4_placeHourByHour 3 = .ok (.iconst 0, 1) := by decide +kernel
theorem dX4_placeHourByHour_4 : decode cX4_placeHourByHour 4 = .ok (.invokevirtual 54, 3) := by decide +kernel
theorem dX4_placeHourByHour_7 : decode cX4_placeHourByHour 7 = .ok (.astore_n 3, 1) := by decide +kernel
theorem dX4_placeHourByHour_8 : decode cX4_placeHourByHour 8 = .ok (.iconst 0, 1) := by decide +kernel
theorem dX4_placeHourByHour_9 : decode cX4_placeHourByHour 9 = .ok (.istore 4, 2) := by decide +kernel
theorem dX4_placeHourByHour_11 : decode cX4_placeHourByHour 11 = .ok (.iload 4, 2) := by decide +kernel
theorem dX4_placeHourByHour_13 : decode cX4_placeHourByHour 13 = .ok (.iload_n 1, 1) := by decide +kernel
theorem dX4_placeHourByHour_14 : decode cX4_placeHourByHour 14 = .ok (.if_icmp .gt 53, 3) := by decide +kernel
theorem dX4_placeHourByHour_17 : decode cX4_placeHourByHour 17 = .ok (.aload_n 3, 1) := by decide +kernel
theorem dX4_placeHourByHour_18 : decode cX4_placeHourByHour 18 = .ok (.ifnull 28, 3) := by decide +kernel
theorem dX4_placeHourByHour_21 : decode cX4_placeHourByHour 21 = .ok (.aload_n 3, 1) := by decide +kernel
theorem dX4_placeHourByHour_22 : decode cX4_placeHourByHour 22 = .ok (.getfield 33, 3) := by decide +kernel
theorem dX4_placeHourByHour_25 : decode cX4_placeHourByHour 25 = .ok (.iload 4, 2) := by decide +kernel
theorem dX4_placeHourByHour_27 : decode cX4_placeHourByHour 27 = .ok (.if_icmp .ne 19, 3) := by decide +kernel
theorem dX4_placeHourByHour_30 : decode cX4_placeHourByHour 30 = .ok (.aload_n 3, 1) := by decide +kernel
theorem dX4_placeHourByHour_31 : decode cX4_placeHourByHour 31 = .ok (.getfield 36, 3) := by decide +kernel
theorem dX4_placeHourByHour_34 : decode cX4_placeHourByHour 34 = .ok (.istore_n 2, 1) := by decide +kernel
theorem dX4_placeHourByHour_35 : decode cX4_placeHourByHour 35 = .ok (.aload_n 0, 1) := by decide +kernel
theorem dX4_placeHourByHour_36 : decode cX4_placeHourByHour 36 = .ok (.aload_n 3, 1) := by decide +kernel
theorem dX4_placeHourByHour_37 : decode cX4_placeHourByHour 37 = .ok (.getfield 30, 3) := by decide +kernel
theorem dX4_placeHourByHour_40 : decode cX4_placeHourByHour 40 = .ok (.iconst 1, 1) := by decide +kernel
theorem dX4_placeHourByHour_41 : decode cX4_placeHourByHour 41 = .ok (.iadd, 1) := by decide +kernel
theorem dX4_placeHourByHour_42 : decode cX4_placeHourByHour 42 = .ok (.invokevirtual 54, 3) := by decide +kernel
theorem dX4_placeHourByHour_45 : decode cX4_placeHourByHour 45 = .ok (.astore_n 3, 1) := by decide +kernel
theorem dX4_placeHourByHour_46 : decode cX4_placeHourByHour 46 = .ok (.aload_n 3, 1) := by decide +kernel
theorem dX4_placeHourByHour_47 : decode cX4_placeHourByHour 47 = .ok (.ifnull 14, 3) := by decide +kernel
theorem dX4_placeHourByHour_50 : decode cX4_placeHourByHour 50 = .ok (.aload_n 3, 1) := by decide +kernel
theorem dX4_placeHourByHour_51 : decode cX4_placeHourByHour 51 = .ok (.getfield 45, 3) := by decide +kernel
theorem dX4_placeHourByHour_54 : decode cX4_placeHourByHour 54 = .ok (.iload 4, 2) := by decide +kernel
theorem dX4_placeHourByHour_56 : decode cX4_placeHourByHour 56 = .ok (.if_icmp .ne 5, 3) := by decide +kernel
theorem dX4_placeHourByHour_59 : decode cX4_placeHourByHour 59 = .ok (.iconst (-1), 1) := by decide +kernel
theorem dX4_placeHourByHour_60 : decode cX4_placeHourByHour 60 = .ok (.istore_n 2, 1) := by decide +kernel
theorem dX4_placeHourByHour_61 : decode cX4_placeHourByHour 61 = .ok (.iinc 4 1, 3) := by decide +kernel
theorem dX4_placeHourByHour_64 : decode cX4_placeHourByHour 64 = .ok (.goto (-53), 3) := by decide +kernel
theorem dX4_placeHourByHour_67 : decode cX4_placeHourByHour 67 = .ok (.iload_n 2, 1) := by decide +kernel
theorem dX4_placeHourByHour_68 : decode cX4_placeHourByHour 68 = .ok (.ireturn, 1) := by decide +kernel
theorem dX5_init_0 : decode cX5_init 0 = .ok (.aload_n 0, 1) := by decide +kernel
theorem dX5_init_1 : decode cX5_init 1 = .ok (.invokespecial 3, 3) := by decide +kernel
theorem dX5_init_4 : decode cX5_init 4 = .ok (.aload_n 0, 1) := by decide +kernel
theorem dX5_init_5 : decode cX5_init 5 = .ok (.iconst 5, 1) := by decide +kernel
theorem dX5_init_6 : decode cX5_init 6 = .ok (.newarray .int, 2) := by decide +kernel
theorem dX5_init_8 : decode cX5_init 8 = .ok (.putfield 9, 3) := by decide +kernel
theorem dX5_init_11 : decode cX5_init 11 = .ok (.aload_n 0, 1) := by decide +kernel
theorem dX5_init_12 : decode cX5_init 12 = .ok (.bipush 12, 2) := by decide +kernel
theorem dX5_init_14 : decode cX5_init 14 = .ok (.newarray .int, 2) := by decide +kernel
theorem dX5_init_16 : decode cX5_init 16 = .ok (.putfield 15, 3) := by decide +kernel
theorem dX5_init_19 : decode cX5_init 19 = .ok (.aload_n 0, 1) := by decide +kernel
theorem dX5_init_20 : decode cX5_init 20 = .ok (.bipush 16, 2) := by decide +kernel
theorem dX5_init_22 : decode cX5_init 22 = .ok (.anewarray 18, 3) := by decide +kernel
theorem dX5_init_25 : decode cX5_init 25 = .ok (.putfield 20, 3) := by decide +kernel
theorem dX5_init_28 : decode cX5_init 28 = .ok (.aload_n 0, 1) := by decide +kernel
theorem dX5_init_29 : decode cX5_init 29 = .ok (.bipush 6, 2) := by decide +kernel
theorem dX5_init_31 : decode cX5_init 31 = .ok (.anewarray 24, 3) := by decide +kernel
theorem dX5_init_34 : decode cX5_init 34 = .ok (.putfield 26, 3) := by decide +kernel
theorem dX5_init_37 : decode cX5_init 37 = .ok (.aload_n 0, 1) := by decide +kernel
theorem dX5_init_38 : decode cX5_init 38 = .ok (.iconst 3, 1) := by decide +kernel
theorem dX5_init_39 : decode cX5_init 39 = .ok (.anewarray 30, 3) := by decide +kernel
theorem dX5_init_42 : decode cX5_init 42 = .ok (.putfield 32, 3) := by decide +kernel
theorem dX5_init_45 : decode cX5_init 45 = .ok (.getstatic 36, 3) := by decide +kernel
theorem dX5_init_48 : decode cX5_init 48 = .ok (.iconst 0, 1) := by decide +kernel
theorem dX5_init_49 : decode cX5_init 49 = .ok (.aload_n 0, 1) := by decide +kernel
theorem dX5_init_50 : decode cX5_init 50 = .ok (.getfield 9, 3) := by decide +kernel
theorem dX5_init_53 : decode cX5_init 53 = .ok (.iconst 0, 1) := by decide +kernel
theorem dX5_init_54 : decode cX5_init 54 = .ok (.iconst 5, 1) := by decide +kernel
theorem dX5_init_55 : decode cX5_init 55 = .ok (.invokestatic 39, 3) := by decide +kernel
theorem dX5_init_58 : decode cX5_init 58 = .ok (.getstatic 45, 3) := by decide +kernel
theorem dX5_init_61 : decode cX5_init 61 = .ok (.iconst 0, 1) := by decide +kernel
theorem dX5_init_62 : decode cX5_init 62 = .ok (.aload_n 0, 1) := by decide +kernel
theorem dX5_init_63 : decode cX5_init 63 = .ok (.getfield 15, 3) := by decide +kernel
theorem dX5_init_66 : decode cX5_init 66 = .ok (.iconst 0, 1) := by decide +kernel
theorem dX5_init_67 : decode cX5_init 67 = .ok (.bipush 12, 2) := by decide +kernel
theorem dX5_init_69 : decode cX5_init 69 = .ok (.invokestatic 39, 3) := by decide +kernel
theorem dX5_init_72 : decode cX5_init 72 = .ok (.iconst 0, 1) := by decide +kernel
theorem dX5_init_73 : decode cX5_init 73 = .ok (.istore_n 1, 1) := by decide +kernel
theorem dX5_init_74 : decode cX5_init 74 = .ok (.iload_n 1, 1) := by decide +kernel
theorem dX5_init_75 : decode cX5_init 75 = .ok (.bipush 16, 2) := by decide +kernel
theorem dX5_init_77 : decode cX5_init 77 = .ok (.if_icmp .ge 22, 3) := by decide +kernel
theorem dX5_init_80 : decode cX5_init 80 = .ok (.aload_n 0, 1) := by decide +kernel
theorem dX5_init_81 : decode cX5_init 81 = .ok (.getfield 20, 3) := by decide +kernel
theorem dX5_init_84 : decode cX5_init 84 = .ok (.iload_n 1, 1) := by decide +kernel
theorem dX5_init_85 : decode cX5_init 85 = .ok (.new 18, 3) := by decide +kernel
theorem dX5_init_88 : decode cX5_init 88 = .ok (.dup, 1) := by decide +kernel
theorem dX5_init_89 : decode cX5_init 89 = .ok (.invokespecial 48, 3) := by decide +kernel
theorem dX5_init_92 : decode cX5_init 92 = .ok (.aastore, 1) := by decide +kernel
theorem dX5_init_93 : decode cX5_init 93 = .ok (.iinc 1 1, 3) := by decide +kernel
theorem dX5_init_96 : decode cX5_init 96 = .ok (.goto (-22), 3) := by decide +kernel
theorem dX5_init_99 : decode cX5_init 99 = .ok (.iconst 0, 1) := by decide +kernel
theorem dX5_init_100 : decode cX5_init 100 = .ok (.istore_n 1, 1) := by decide +kernel
theorem dX5_init_101 : decode cX5_init 101 = .ok (.iload_n 1, 1) := by decide +kernel
theorem dX5_init_102 : decode cX5_init 102 = .ok (.bipush 6, 2) := by decide +kernel
theorem dX5_init_104 : decode cX5_init 104 = .ok (.if_icmp .ge 22, 3) := by decide +kernel
theorem dX5_init_107 : decode cX5_init 107 = .ok (.aload_n 0, 1) := by decide +kernel
theorem dX5_init_108 : decode cX5_init 108 = .ok (.getfield 26, 3) := by decide +kernel
theorem dX5_init_111 : decode cX5_init 111 = .ok (.iload_n 1, 1) := by decide +kernel
theorem dX5_init_112 : decode cX5_init 112 = .ok (.new 24, 3) := by decide +kernel
theorem dX5_init_115 : decode cX5_init 115 = .ok (.dup, 1) := by decide +kernel
theorem dX5_init_116 : decode cX5_init 116 = .ok (.invokespecial 49, 3) := by decide +kernel
theorem dX5_init_119 : decode cX5_init 119 = .ok (.aastore, 1) := by decide +kernel
theorem dX5_init_120 : decode cX5_init 120 = .ok (.iinc 1 1, 3) := by decide +kernel
theorem dX5_init_123 : decode cX5_init 123 = .ok (.goto (-22), 3) := by decide +kernel
theorem dX5_init_126 : decode cX5_init 126 = .ok (.iconst 0, 1) := by decide +kernel
theorem dX5_init_127 : decode cX5_init 127 = .ok (.istore_n 1, 1) := by decide +kernel
theorem dX5_init_128 : decode cX5_init 128 = .ok (.iload_n 1, 1) := by decide +kernel
theorem dX5_init_129 : decode cX5_init 129 = .ok (.iconst 3, 1) := by decide +kernel
theorem dX5_init_130 : decode cX5_init 130 = .ok (.if_icmp .ge 22, 3) := by decide +kernel
theorem dX5_init_133 : decode cX5_init 133 = .ok (.aload_n 0, 1) := by decide +kernel
theorem dX5_init_134 : decode cX5_init 134 = .ok (.getfield 32, 3) := by decide +kernel
theorem dX5_init_137 : decode cX5_init 137 = .ok (.iload_n 1, 1) := by decide +kernel
theorem dX5_init_138 : decode cX5_init 138 = .ok (.new 30, 3) := by decide +kernel
theorem dX5_init_141 : decode cX5_init 141 = .ok (.dup, 1) := by decide +kernel
theorem dX5_init_142 : decode cX5_init 142 = .ok (.invokespecial 50, 3) := by decide +kernel
theorem dX5_init_145 : decode cX5_init 145 = .ok (.aastore, 1) := by decide +kernel
theorem dX5_init_146 : decode cX5_init 146 = .ok (.iinc 1 1, 3) := by decide +kernel
theorem dX5_init_149 : decode cX5_init 149 = .ok (.goto (-21), 3) := by decide +kernel
theorem dX5_init_152 : decode cX5_init 152 = .ok (.return_, 1) := by decide +kernel
theorem dX5_copyFrom_0 : decode cX5_copyFrom 0 = .ok (.aload_n 0, 1) := by decide +kernel
theorem dX5_copyFrom_1 : decode cX5_copyFrom 1 = .ok (.aload_n 1, 1) := by decide +kernel
theorem dX5_copyFrom_2 : decode cX5_copyFrom 2 = .ok (.getfield 51, 3) := by decide +kernel
theorem dX5_copyFrom_5 : decode cX5_copyFrom 5 = .ok (.putfield 51, 3) := by decide +kernel
theorem dX5_copyFrom_8 : decode cX5_copyFrom 8 = .ok (.aload_n 0, 1) := by decide +kernel
theorem dX5_copyFrom_9 : decode cX5_copyFrom 9 = .ok (.aload_n 1, 1) := by decide +kernel
theorem dX5_copyFrom_10 : decode cX5_copyFrom 10 = .ok (.getfield 55, 3) := by decide +kernel
theorem dX5_copyFrom_13 : decode cX5_copyFrom 13 = .ok (.putfield 55, 3) := by decide +kernel
theorem dX5_copyFrom_16 : decode cX5_copyFrom 16 = .ok (.aload_n 0, 1) := by decide +kernel
theorem dX5_copyFrom_17 : decode cX5_copyFrom 17 = .ok (.aload_n 1, 1) := by decide +kernel
theorem dX5_copyFrom_18 : decode cX5_copyFrom 18 = .ok (.getfield 58, 3) := by decide +kernel
theorem dX5_copyFrom_21 : decode cX5_copyFrom 21 = .ok (.putfield 58, 3) := by decide +kernel
theorem dX5_copyFrom_24 : decode cX5_copyFrom 24 = .ok (.aload_n 0, 1) := by decide +kernel
theorem dX5_copyFrom_25 : decode cX5_copyFrom 25 = .ok (.aload_n 1, 1) := by decide +kernel
theorem dX5_copyFrom_26 : decode cX5_copyFrom 26 = .ok (.getfield 61, 3) := by decide +kernel
theorem dX5_copyFrom_29 : decode cX5_copyFrom 29 = .ok (.putfield 61, 3) := by decide +kernel
theorem dX5_copyFrom_32 : decode cX5_copyFrom 32 = .ok (.aload_n 1, 1) := by decide +kernel
theorem dX5_copyFrom_33 : decode cX5_copyFrom 33 = .ok (.getfield 9, 3) := by decide +kernel
theorem dX5_copyFrom_36 : decode cX5_copyFrom 36 = .ok (.iconst 0, 1) := by decide +kernel
theorem dX5_copyFrom_37 : decode cX5_copyFrom 37 = .ok (.aload_n 0, 1) := by decide +kernel
theorem dX5_copyFrom_38 : decode cX5_copyFrom 38 = .ok (.getfield 9, 3) := by decide +kernel
theorem dX5_copyFrom_41 : decode cX5_copyFrom 41 = .ok (.iconst 0, 1) := by decide +kernel
theorem dX5_copyFrom_42 : decode cX5_copyFrom 42 = .ok (.iconst 5, 1) := by decide +kernel
theorem dX5_copyFrom_43 : decode cX5_copyFrom 43 = .ok (.invokestatic 39, 3) := by decide +kernel
theorem dX5_copyFrom_46 : decode cX5_copyFrom 46 = .ok (.aload_n 1, 1) := by decide +kernel
theorem dX5_copyFrom_47 : decode cX5_copyFrom 47 = .ok (.getfield 15, 3) := by decide +kernel
theorem dX5_copyFrom_50 : decode cX5_copyFrom 50 = .ok (.iconst 0, 1) := by decide +kernel
theorem dX5_copyFrom_51 : decode cX5_copyFrom 51 = .ok (.aload_n 0, 1) := by decide +kernel
theorem dX5_copyFrom_52 : decode cX5_copyFrom 52 = .ok (.getfield 15, 3) := by decide +kernel
theorem dX5_copyFrom_55 : decode cX5_copyFrom 55 = .ok (.iconst 0, 1) := by decide +kernel
theorem dX5_copyFrom_56 : decode cX5_copyFrom 56 = .ok (.bipush 12, 2) := by decide +kernel
theorem dX5_copyFrom_58 : decode cX5_copyFrom 58 = .ok (.invokestatic 39, 3) := by decide +kernel
theorem dX5_copyFrom_61 : decode cX5_copyFrom 61 = .ok (.iconst 0, 1) := by decide +kernel
theorem dX5_copyFrom_62 : decode cX5_copyFrom 62 = .ok (.istore_n 2, 1) := by decide +kernel
theorem dX5_copyFrom_63 : decode cX5_copyFrom 63 = .ok (.iload_n 2, 1) := by decide +kernel
theorem dX5_copyFrom_64 : decode cX5_copyFrom 64 = .ok (.aload_n 0, 1) := by decide +kernel
theorem dX5_copyFrom_65 : decode cX5_copyFrom 65 = .ok (.getfield 55, 3) := by decide +kernel
theorem dX5_copyFrom_68 : decode cX5_copyFrom 68 = .ok (.if_icmp .ge 24, 3) := by decide +kernel
theorem dX5_copyFrom_71 : decode cX5_copyFrom 71 = .ok (.aload_n 0, 1) := by decide +kernel
theorem dX5_copyFrom_72 : decode cX5_copyFrom 72 = .ok (.getfield 20, 3) := by decide +kernel
theorem dX5_copyFrom_75 : decode cX5_copyFrom 75 = .ok (.iload_n 2, 1) := by decide +kernel
theorem dX5_copyFrom_76 : decode cX5_copyFrom 76 = .ok (.aaload, 1) := by decide +kernel
theorem dX5_copyFrom_77 : decode cX5_copyFrom 77 = .ok (.aload_n 1, 1) := by decide +kernel
theorem dX5_copyFrom_78 : decode cX5_copyFrom 78 = .ok (.getfield 20, 3) := by decide +kernel
theorem dX5_copyFrom_81 : decode cX5_copyFrom 81 = .ok (.iload_n 2, 1) := by decide +kernel
theorem dX5_copyFrom_82 : decode cX5_copyFrom 82 = .ok (.aaload, 1) := by decide +kernel
theorem dX5_copyFrom_83 : decode cX5_copyFrom 83 = .ok (.invokevirtual 64, 3) := by decide +kernel
theorem dX5_copyFrom_86 : decode cX5_copyFrom 86 = .ok (.iinc 2 1, 3) := by decide +kernel
theorem dX5_copyFrom_89 : decode cX5_copyFrom 89 = .ok (.goto (-26), 3) := by decide +kernel
theorem dX5_copyFrom_92 : decode cX5_copyFrom 92 = .ok (.iconst 0, 1) := by decide +kernel
theorem dX5_copyFrom_93 : decode cX5_copyFrom 93 = .ok (.istore_n 2, 1) := by decide +kernel
theorem dX5_copyFrom_94 : decode cX5_copyFrom 94 = .ok (.iload_n 2, 1) := by decide +kernel
theorem dX5_copyFrom_95 : decode cX5_copyFrom 95 = .ok (.aload_n 0, 1) := by decide +kernel
theorem dX5_copyFrom_96 : decode cX5_copyFrom 96 = .ok (.getfield 58, 3) := by decide +kernel
theorem dX5_copyFrom_99 : decode cX5_copyFrom 99 = .ok (.if_icmp .ge 24, 3) := by decide +kernel
theorem dX5_copyFrom_102 : decode cX5_copyFrom 102 = .ok (.aload_n 0, 1) := by decide +kernel
theorem dX5_copyFrom_103 : decode cX5_copyFrom 103 = .ok (.getfield 26, 3) := by decide +kernel
theorem dX5_copyFrom_106 : decode cX5_copyFrom 106 = .ok (.iload_n 2, 1) := by decide +kernel
theorem dX5_copyFrom_107 : decode cX5_copyFrom 107 = .ok (.aaload, 1) := by decide +kernel
theorem dX5_copyFrom_108 : decode cX5_copyFrom 108 = .ok (.aload_n 1, 1) := by decide +kernel
theorem dX5_copyFrom_109 : decode cX5_copyFrom 109 = .ok (.getfield 26, 3) := by decide +kernel
theorem dX5_copyFrom_112 : decode cX5_copyFrom 112 = .ok (.iload_n 2, 1) := by decide +kernel
theorem dX5_copyFrom_113 : decode cX5_copyFrom 113 = .ok (.aaload, 1) := by decide +kernel
theorem dX5_copyFrom_114 : decode cX5_copyFrom 114 = .ok (.invokevirtual 68, 3) := by decide +kernel
theorem dX5_copyFrom_117 : decode cX5_copyFrom 117 = .ok (.iinc 2 1, 3) := by decide +kernel
theorem dX5_copyFrom_120 : decode cX5_copyFrom 120 = .ok (.goto (-26), 3) := by decide +kernel
theorem dX5_copyFrom_123 : decode cX5_copyFrom 123 = .ok (.iconst 0, 1) := by decide +kernel
theorem dX5_copyFrom_124 : decode cX5_copyFrom 124 = .ok (.istore_n 2, 1) := by decide +kernel
theorem dX5_copyFrom_125 : decode cX5_copyFrom 125 = .ok (.iload_n 2, 1) := by decide +kernel
theorem dX5_copyFrom_126 : decode cX5_copyFrom 126 = .ok (.aload_n 0, 1) := by decide +kernel
theorem dX5_copyFrom_127 : decode cX5_copyFrom 127 = .ok (.getfield 61, 3) := by decide +kernel
theorem dX5_copyFrom_130 : decode cX5_copyFrom 130 = .ok (.if_icmp .ge 24, 3) := by decide +kernel
theorem dX5_copyFrom_133 : decode cX5_copyFrom 133 = .ok (.aload_n 0, 1) := by decide +kernel
theorem dX5_copyFrom_134 : decode cX5_copyFrom 134 = .ok (.getfield 32, 3) := by decide +kernel
theorem dX5_copyFrom_137 : decode cX5_copyFrom 137 = .ok (.iload_n 2, 1) := by decide +kernel
theorem dX5_copyFrom_138 : decode cX5_copyFrom 138 = .ok (.aaload, 1) := by decide +kernel
theorem dX5_copyFrom_139 : decode cX5_copyFrom 139 = .ok (.aload_n 1, 1) := by decide +kernel
theorem dX5_copyFrom_140 : decode cX5_copyFrom 140 = .ok (.getfield 32, 3) := by decide +kernel
theorem dX5_copyFrom_143 : decode cX5_copyFrom 143 = .ok (.iload_n 2, 1) := by decide +kernel
theorem dX5_copyFrom_144 : decode cX5_copyFrom 144 = .ok (.aaload, 1) := by decide +kernel
theorem dX5_copyFrom_145 : decode cX5_copyFrom 145 = .ok (.invokevirtual 71, 3) := by decide +kernel
theorem dX5_copyFrom_148 : decode cX5_copyFrom 148 = .ok (.iinc 2 1, 3) := by decide +kernel
theorem dX5_copyFrom_151 : decode cX5_copyFrom 151 = .ok (.goto (-26), 3) := by decide +kernel
theorem dX5_copyFrom_154 : decode cX5_copyFrom 154 = .ok (.return_, 1) := by decide +kernel
theorem dX5_hasOrder_0 : decode cX5_hasOrder 0 = .ok (.iload_n 1, 1) := by decide +kernel
theorem dX5_hasOrder_1 : decode cX5_hasOrder 1 = .ok (.ifCond .lt 15, 3) := by decide +kernel
theorem dX5_hasOrder_4 : decode cX5_hasOrder 4 = .ok (.iload_n 1, 1) := by decide +kernel
theorem dX5_hasOrder_5 : decode cX5_hasOrder 5 = .ok (.aload_n 0, 1) := by decide +kernel
theorem dX5_hasOrder_6 : decode cX5_hasOrder 6 = .ok (.getfield 55, 3) := by decide +kernel
theorem dX5_hasOrder_9 : decode cX5_hasOrder 9 = .ok (.if_icmp .ge 7, 3) := by decide +kernel
theorem dX5_hasOrder_12 : decode cX5_hasOrder 12 = .ok (.iconst 1, 1) := by decide +kernel
theorem dX5_hasOrder_13 : decode cX5_hasOrder 13 = .ok (.goto 4, 3) := by decide +kernel
theorem dX5_hasOrder_16 : decode cX5_hasOrder 16 = .ok (.iconst 0, 1) := by decide +kernel
theorem dX5_hasOrder_17 : decode cX5_hasOrder 17 = .ok (.ireturn, 1) := by decide +kernel
theorem dX5_hasPilot_0 : decode cX5_hasPilot 0 = .ok (.iload_n 1, 1) := by decide +kernel
theorem dX5_hasPilot_1 : decode cX5_hasPilot 1 = .ok (.ifCond .lt 15, 3) := by decide +kernel
theorem dX5_hasPilot_4 : decode cX5_hasPilot 4 = .ok (.iload_n 1, 1) := by decide +kernel
theorem dX5_hasPilot_5 : decode cX5_hasPilot 5 = .ok (.aload_n 0, 1) := by decide +kernel
theorem dX5_hasPilot_6 : decode cX5_hasPilot 6 = .ok (.getfield 58, 3) := by decide +kernel
theorem dX5_hasPilot_9 : decode cX5_hasPilot 9 = .ok (.if_icmp .ge 7, 3) := by decide +kernel
theorem dX5_hasPilot_12 : decode cX5_hasPilot 12 = .ok (.iconst 1, 1) := by decide +kernel
theorem dX5_hasPilot_13 : decode cX5_hasPilot 13 = .ok (.goto 4, 3) := by decide +kernel
theorem dX5_hasPilot_16 : decode cX5_hasPilot 16 = .ok (.iconst 0, 1) := by decide +kernel
theorem dX5_hasPilot_17 : decode cX5_hasPilot 17 = .ok (.ireturn, 1) := by decide +kernel
theorem dX5_hasBoat_0 : decode cX5_hasBoat 0 = .ok (.iload_n 1, 1) := by decide +kernel
theorem dX5_hasBoat_1 : decode cX5_hasBoat 1 = .ok (.ifCond .lt 15, 3) := by decide +kernel
theorem dX5_hasBoat_4 : decode cX5_hasBoat 4 = .ok (.iload_n 1, 1) := by decide +kernel
theorem dX5_hasBoat_5 : decode cX5_hasBoat 5 = .ok (.aload_n 0, 1) := by decide +kernel
theorem dX5_hasBoat_6 : decode cX5_hasBoat 6 = .ok (.getfield 61, 3) := by decide +kernel
theorem dX5_hasBoat_9 : decode cX5_hasBoat 9 = .ok (.if_icmp .ge 7, 3) := by decide +kernel
theorem dX5_hasBoat_12 : decode cX5_hasBoat 12 = .ok (.iconst 1, 1) := by decide +kernel
theorem dX5_hasBoat_13 : decode cX5_hasBoat 13 = .ok (.goto 4, 3) := by decide +kernel
theorem dX5_hasBoat_16 : decode cX5_hasBoat 16 = .ok (.iconst 0, 1) := by decide +kernel
theorem dX5_hasBoat_17 : decode cX5_hasBoat 17 = .ok (.ireturn, 1) := by decide +kernel
theorem dX5_makePilot_0 : decode cX5_makePilot 0 = .ok (.aload_n 0, 1) := by decide +kernel
theorem dX5_makePilot_1 : decode cX5_makePilot 1 = .ok (.getfield 58, 3) := by decide +kernel
theorem dX5_makePilot_4 : decode cX5_makePilot 4 = .ok (.istore_n 2, 1) := by decide +kernel
theorem dX5_makePilot_5 : decode cX5_makePilot 5 = .ok (.iload_n 2, 1) := by decide +kernel
theorem dX5_makePilot_6 : decode cX5_makePilot 6 = .ok (.bipush 6, 2) := by decide +kernel
theorem dX5_makePilot_8 : decode cX5_makePilot 8 = .ok (.if_icmp .ge 23, 3) := by decide +kernel
theorem dX5_makePilot_11 : decode cX5_makePilot 11 = .ok (.aload_n 0, 1) := by decide +kernel
theorem dX5_makePilot_12 : decode cX5_makePilot 12 = .ok (.getfield 26, 3) := by decide +kernel
theorem dX5_makePilot_15 : decode cX5_makePilot 15 = .ok (.iload_n 2, 1) := by decide +kernel
theorem dX5_makePilot_16 : decode cX5_makePilot 16 = .ok (.aaload, 1) := by decide +kernel
theorem dX5_makePilot_17 : decode cX5_makePilot 17 = .ok (.iload_n 1, 1) := by decide +kernel
theorem dX5_makePilot_18 : decode cX5_makePilot 18 = .ok (.invokevirtual 74, 3) := by decide +kernel
theorem dX5_makePilot_21 : decode cX5_makePilot 21 = .ok (.aload_n 0, 1) := by decide +kernel
theorem dX5_makePilot_22 : decode cX5_makePilot 22 = .ok (.dup, 1) := by decide +kernel
theorem dX5_makePilot_23 : decode cX5_makePilot 23 = .ok (.getfield 58, 3) := by decide +kernel
theorem dX5_makePilot_26 : decode cX5_makePilot 26 = .ok (.iconst 1, 1) := by decide +kernel
theorem dX5_makePilot_27 : decode cX5_makePilot 27 = .ok (.iadd, 1) := by decide +kernel
theorem dX5_makePilot_28 : decode cX5_makePilot 28 = .ok (.putfield 58, 3) := by decide +kernel
theorem dX5_makePilot_31 : decode cX5_makePilot 31 = .ok (.iload_n 2, 1) := by decide +kernel
theorem dX5_makePilot_32 : decode cX5_makePilot 32 = .ok (.ireturn, 1) := by decide +kernel
theorem dX5_makeBoat_0 : decode cX5_makeBoat 0 = .ok (.aload_n 0, 1) := by decide +kernel
theorem dX5_makeBoat_1 : decode cX5_makeBoat 1 = .ok (.getfield 61, 3) := by decide +kernel
theorem dX5_makeBoat_4 : decode cX5_makeBoat 4 = .ok (.istore_n 2, 1) := by decide +kernel
theorem dX5_makeBoat_5 : decode cX5_makeBoat 5 = .ok (.iload_n 2, 1) := by decide +kernel
theorem dX5_makeBoat_6 : decode cX5_makeBoat 6 = .ok (.iconst 3, 1) := by decide +kernel
theorem dX5_makeBoat_7 : decode cX5_makeBoat 7 = .ok (.if_icmp .ge 23, 3) := by decide +kernel
theorem dX5_makeBoat_10 : decode cX5_makeBoat 10 = .ok (.aload_n 0, 1) := by decide +kernel
theorem dX5_makeBoat_11 : decode cX5_makeBoat 11 = .ok (.getfield 32, 3) := by decide +kernel
theorem dX5_makeBoat_14 : decode cX5_makeBoat 14 = .ok (.iload_n 2, 1) := by decide +kernel
theorem dX5_makeBoat_15 : decode cX5_makeBoat 15 = .ok (.aaload, 1) := by decide +kernel
theorem dX5_makeBoat_16 : decode cX5_makeBoat 16 = .ok (.iload_n 1, 1) := by decide +kernel
theorem dX5_makeBoat_17 : decode cX5_makeBoat 17 = .ok (.invokevirtual 78, 3) := by decide +kernel
theorem dX5_makeBoat_20 : decode cX5_makeBoat 20 = .ok (.aload_n 0, 1) := by decide +kernel
theorem dX5_makeBoat_21 : decode cX5_makeBoat 21 = .ok (.dup, 1) := by decide +kernel
theorem dX5_makeBoat_22 : decode cX5_makeBoat 22 = .ok (.getfield 61, 3) := by decide +kernel
theorem dX5_makeBoat_25 : decode cX5_makeBoat 25 = .ok (.iconst 1, 1) := by decide +kernel
theorem dX5_makeBoat_26 : decode cX5_makeBoat 26 = .ok (.iadd, 1) := by decide +kernel
theorem dX5_makeBoat_27 : decode cX5_makeBoat 27 = .ok (.putfield 61, 3) := by decide +kernel
theorem dX5_makeBoat_30 : decode cX5_makeBoat 30 = .ok (.iload_n 2, 1) := by decide +kernel
theorem dX5_makeBoat_31 : decode cX5_makeBoat 31 = .ok (.ireturn, 1) := by decide +kernel
theorem dX5_isOrder_0 : decode cX5_isOrder 0 = .ok (.iload_n 1, 1) := by decide +kernel
theorem dX5_isOrder_1 : decode cX5_isOrder 1 = .ok (.iconst 1, 1) := by decide +kernel
theorem dX5_isOrder_2 : decode cX5_isOrder 2 = .ok (.if_icmp .lt 45, 3) := by decide +kernel
theorem dX5_isOrder_5 : decode cX5_isOrder 5 = .ok (.iload_n 1, 1) := by decide +kernel
theorem dX5_isOrder_6 : decode cX5_isOrder 6 = .ok (.iconst 4, 1) := by decide +kernel
theorem dX5_isOrder_7 : decode cX5_isOrder 7 = .ok (.if_icmp .gt 40, 3) := by decide +kernel
theorem dX5_isOrder_10 : decode cX5_isOrder 10 = .ok (.iload_n 2, 1) := by decide +kernel
theorem dX5_isOrder_11 : decode cX5_isOrder 11 = .ok (.iconst 1, 1) := by decide +kernel
theorem dX5_isOrder_12 : decode cX5_isOrder 12 = .ok (.if_icmp .lt 35, 3) := by decide +kernel
theorem dX5_isOrder_15 : decode cX5_isOrder 15 = .ok (.iload_n 2, 1) := by decide +kernel
theorem dX5_isOrder_16 : decode cX5_isOrder 16 = .ok (.bipush 30, 2) := by decide +kernel
theorem dX5_isOrder_18 : decode cX5_isOrder 18 = .ok (.if_icmp .gt 29, 3) := by decide +kernel
theorem dX5_isOrder_21 : decode cX5_isOrder 21 = .ok (.iload_n 3, 1) := by decide +kernel
theorem dX5_isOrder_22 : decode cX5_isOrder 22 = .ok (.aload_n 0, 1) := by decide +kernel
theorem dX5_isOrder_23 : decode cX5_isOrder 23 = .ok (.getfield 51, 3) := by decide +kernel
theorem dX5_isOrder_26 : decode cX5_isOrder 26 = .ok (.if_icmp .lt 21, 3) := by decide +kernel
theorem dX5_isOrder_29 : decode cX5_isOrder 29 = .ok (.iload 4, 2) := by decide +kernel
theorem dX5_isOrder_31 : decode cX5_isOrder 31 = .ok (.iload_n 3, 1) := by decide +kernel
theorem dX5_isOrder_32 : decode cX5_isOrder 32 = .ok (.if_icmp .lt 15, 3) := by decide +kernel
theorem dX5_isOrder_35 : decode cX5_isOrder 35 = .ok (.iload 4, 2) := by decide +kernel
theorem dX5_isOrder_37 : decode cX5_isOrder 37 = .ok (.sipush 900, 3) := by decide +kernel
theorem dX5_isOrder_40 : decode cX5_isOrder 40 = .ok (.if_icmp .gt 7, 3) := by decide +kernel
theorem dX5_isOrder_43 : decode cX5_isOrder 43 = .ok (.iconst 1, 1) := by decide +kernel
theorem dX5_isOrder_44 : decode cX5_isOrder 44 = .ok (.goto 4, 3) := by decide +kernel
theorem dX5_isOrder_47 : decode cX5_isOrder 47 = .ok (.iconst 0, 1) := by decide +kernel
theorem dX5_isOrder_48 : decode cX5_isOrder 48 = .ok (.ireturn, 1) := by decide +kernel
theorem dX5_makeOrder_0 : decode cX5_makeOrder 0 = .ok (.aload_n 0, 1) := by decide +kernel
theorem dX5_makeOrder_1 : decode cX5_makeOrder 1 = .ok (.getfield 55, 3) := by decide +kernel
theorem dX5_makeOrder_4 : decode cX5_makeOrder 4 = .ok (.istore 6, 2) := by decide +kernel
theorem dX5_makeOrder_6 : decode cX5_makeOrder 6 = .ok (.iload 6, 2) := by decide +kernel
theorem dX5_makeOrder_8 : decode cX5_makeOrder 8 = .ok (.bipush 16, 2) := by decide +kernel
theorem dX5_makeOrder_10 : decode cX5_makeOrder 10 = .ok (.if_icmp .ge 30, 3) := by decide +kernel
theorem dX5_makeOrder_13 : decode cX5_makeOrder 13 = .ok (.aload_n 0, 1) := by decide +kernel
theorem dX5_makeOrder_14 : decode cX5_makeOrder 14 = .ok (.getfield 20, 3) := by decide +kernel
theorem dX5_makeOrder_17 : decode cX5_makeOrder 17 = .ok (.iload 6, 2) := by decide +kernel
theorem dX5_makeOrder_19 : decode cX5_makeOrder 19 = .ok (.aaload, 1) := by decide +kernel
theorem dX5_makeOrder_20 : decode cX5_makeOrder 20 = .ok (.iload_n 1, 1) := by decide +kernel
theorem dX5_makeOrder_21 : decode cX5_makeOrder 21 = .ok (.iload_n 2, 1) := by decide +kernel
theorem dX5_makeOrder_22 : decode cX5_makeOrder 22 = .ok (.iload_n 3, 1) := by decide +kernel
theorem dX5_makeOrder_23 : decode cX5_makeOrder 23 = .ok (.iload 4, 2) := by decide +kernel
theorem dX5_makeOrder_25 : decode cX5_makeOrder 25 = .ok (.iload 5, 2) := by decide +kernel
theorem dX5_makeOrder_27 : decode cX5_makeOrder 27 = .ok (.invokevirtual 79, 3) := by decide +kernel
theorem dX5_makeOrder_30 : decode cX5_makeOrder 30 = .ok (.aload_n 0, 1) := by decide +kernel
theorem dX5_makeOrder_31 : decode cX5_makeOrder 31 = .ok (.dup, 1) := by decide +kernel
theorem dX5_makeOrder_32 : decode cX5_makeOrder 32 = .ok (.getfield 55, 3) := by decide +kernel
theorem dX5_makeOrder_35 : decode cX5_makeOrder 35 = .ok (.iconst 1, 1) := by decide +kernel
theorem dX5_makeOrder_36 : decode cX5_makeOrder 36 = .ok (.iadd, 1) := by decide +kernel
theorem dX5_makeOrder_37 : decode cX5_makeOrder 37 = .ok (.putfield 55, 3) := by decide +kernel
theorem dX5_makeOrder_40 : decode cX5_makeOrder 40 = .ok (.iload 6, 2) := by decide +kernel
theorem dX5_makeOrder_42 : decode cX5_makeOrder 42 = .ok (.ireturn, 1) := by decide +kernel
theorem dX5_depthAt_0 : decode cX5_depthAt 0 = .ok (.aload_n 0, 1) := by decide +kernel
theorem dX5_depthAt_1 : decode cX5_depthAt 1 = .ok (.getfield 9, 3) := by decide +kernel
theorem dX5_depthAt_4 : decode cX5_depthAt 4 = .ok (.iconst 3, 1) := by decide +kernel
theorem dX5_depthAt_5 : decode cX5_depthAt 5 = .ok (.iaload, 1) := by decide +kernel
theorem dX5_depthAt_6 : decode cX5_depthAt 6 = .ok (.aload_n 0, 1) := by decide +kernel
theorem dX5_depthAt_7 : decode cX5_depthAt 7 = .ok (.getfield 15, 3) := by decide +kernel
theorem dX5_depthAt_10 : decode cX5_depthAt 10 = .ok (.iload_n 1, 1) := by decide +kernel
theorem dX5_depthAt_11 : decode cX5_depthAt 11 = .ok (.bipush 12, 2) := by decide +kernel
theorem dX5_depthAt_13 : decode cX5_depthAt 13 = .ok (.invokestatic 82, 3) := by decide +kernel
theorem dX5_depthAt_16 : decode cX5_depthAt 16 = .ok (.iaload, 1) := by decide +kernel
theorem dX5_depthAt_17 : decode cX5_depthAt 17 = .ok (.iadd, 1) := by decide +kernel
theorem dX5_depthAt_18 : decode cX5_depthAt 18 = .ok (.ireturn, 1) := by decide +kernel
theorem dX5_isDeepEnough_0 : decode cX5_isDeepEnough 0 = .ok (.iload_n 2, 1) := by decide +kernel
theorem dX5_isDeepEnough_1 : decode cX5_isDeepEnough 1 = .ok (.aload_n 1, 1) := by decide +kernel
theorem dX5_isDeepEnough_2 : decode cX5_isDeepEnough 2 = .ok (.invokevirtual 88, 3) := by decide +kernel
theorem dX5_isDeepEnough_5 : decode cX5_isDeepEnough 5 = .ok (.iadd, 1) := by decide +kernel
theorem dX5_isDeepEnough_6 : decode cX5_isDeepEnough 6 = .ok (.istore_n 3, 1) := by decide +kernel
theorem dX5_isDeepEnough_7 : decode cX5_isDeepEnough 7 = .ok (.iload_n 2, 1) := by decide +kernel
theorem dX5_isDeepEnough_8 : decode cX5_isDeepEnough 8 = .ok (.istore 4, 2) := by decide +kernel
theorem dX5_isDeepEnough_10 : decode cX5_isDeepEnough 10 = .ok (.iload 4, 2) := by decide +kernel
theorem dX5_isDeepEnough_12 : decode cX5_isDeepEnough 12 = .ok (.iload_n 3, 1) := by decide +kernel
theorem dX5_isDeepEnough_13 : decode cX5_isDeepEnough 13 = .ok (.if_icmp .ge 24, 3) := by decide +kernel
theorem dX5_isDeepEnough_16 : decode cX5_isDeepEnough 16 = .ok (.aload_n 0, 1) := by decide +kernel
theorem dX5_isDeepEnough_17 : decode cX5_isDeepEnough 17 = .ok (.iload 4, 2) := by decide +kernel
theorem dX5_isDeepEnough_19 : decode cX5_isDeepEnough 19 = .ok (.invokevirtual 92, 3) := by decide +kernel
theorem dX5_isDeepEnough_22 : decode cX5_isDeepEnough 22 = .ok (.aload_n 1, 1) := by decide +kernel
theorem dX5_isDeepEnough_23 : decode cX5_isDeepEnough 23 = .ok (.getfield 96, 3) := by decide +kernel
theorem dX5_isDeepEnough_26 : decode cX5_isDeepEnough 26 = .ok (.if_icmp .ge 5, 3) := by decide +kernel
theorem dX5_isDeepEnough_29 : decode cX5_isDeepEnough 29 = .ok (.iconst 0, 1) := by decide +kernel
theorem dX5_isDeepEnough_30 : decode cX5_isDeepEnough 30 = .ok (.ireturn, 1) := by decide +kernel
theorem dX5_isDeepEnough_31 : decode cX5_isDeepEnough 31 = .ok (.iinc 4 1, 3) := by decide +kernel
theorem dX5_isDeepEnough_34 : decode cX5_isDeepEnough 34 = .ok (.goto (-24), 3) := by decide +kernel
theorem dX5_isDeepEnough_37 : decode cX5_isDeepEnough 37 = .ok (.iconst 1, 1) := by decide +kernel
theorem dX5_isDeepEnough_38 : decode cX5_isDeepEnough 38 = .ok (.ireturn, 1) := by decide +kernel
theorem dX5_firstOfWindow_0 : decode cX5_firstOfWindow 0 = .ok (.iload_n 2, 1) := by decide +kernel
theorem dX5_firstOfWindow_1 : decode cX5_firstOfWindow 1 = .ok (.aload_n 1, 1) := by decide +kernel
theorem dX5_firstOfWindow_2 : decode cX5_firstOfWindow 2 = .ok (.getfield 99, 3) := by decide +kernel
theorem dX5_firstOfWindow_5 : decode cX5_firstOfWindow 5 = .ok (.invokestatic 102, 3) := by decide +kernel
theorem dX5_firstOfWindow_8 : decode cX5_firstOfWindow 8 = .ok (.istore_n 3, 1) := by decide +kernel
theorem dX5_firstOfWindow_9 : decode cX5_firstOfWindow 9 = .ok (.aload_n 1, 1) := by decide +kernel
theorem dX5_firstOfWindow_10 : decode cX5_firstOfWindow 10 = .ok (.getfield 105, 3) := by decide +kernel
theorem dX5_firstOfWindow_13 : decode cX5_firstOfWindow 13 = .ok (.iload_n 3, 1) := by decide +kernel
theorem dX5_firstOfWindow_14 : decode cX5_firstOfWindow 14 = .ok (.bipush 12, 2) := by decide +kernel
theorem dX5_firstOfWindow_16 : decode cX5_firstOfWindow 16 = .ok (.iadd, 1) := by decide +kernel
theorem dX5_firstOfWindow_17 : decode cX5_firstOfWindow 17 = .ok (.iconst 1, 1) := by decide +kernel
theorem dX5_firstOfWindow_18 : decode cX5_firstOfWindow 18 = .ok (.isub, 1) := by decide +kernel
theorem dX5_firstOfWindow_19 : decode cX5_firstOfWindow 19 = .ok (.invokestatic 108, 3) := by decide +kernel
theorem dX5_firstOfWindow_22 : decode cX5_firstOfWindow 22 = .ok (.istore 4, 2) := by decide +kernel
theorem dX5_firstOfWindow_24 : decode cX5_firstOfWindow 24 = .ok (.iload_n 3, 1) := by decide +kernel
theorem dX5_firstOfWindow_25 : decode cX5_firstOfWindow 25 = .ok (.istore 5, 2) := by decide +kernel
theorem dX5_firstOfWindow_27 : decode cX5_firstOfWindow 27 = .ok (.iload 5, 2) := by decide +kernel
theorem dX5_firstOfWindow_29 : decode cX5_firstOfWindow 29 = .ok (.iload 4, 2) := by decide +kernel
theorem dX5_firstOfWindow_31 : decode cX5_firstOfWindow 31 = .ok (.if_icmp .gt 22, 3) := by decide +kernel
theorem dX5_firstOfWindow_34 : decode cX5_firstOfWindow 34 = .ok (.aload_n 0, 1) := by decide +kernel
theorem dX5_firstOfWindow_35 : decode cX5_firstOfWindow 35 = .ok (.aload_n 1, 1) := by decide +kernel
theorem dX5_firstOfWindow_36 : decode cX5_firstOfWindow 36 = .ok (.iload 5, 2) := by decide +kernel
theorem dX5_firstOfWindow_38 : decode cX5_firstOfWindow 38 = .ok (.invokevirtual 111, 3) := by decide +kernel
theorem dX5_firstOfWindow_41 : decode cX5_firstOfWindow 41 = .ok (.ifCond .eq 6, 3) := by decide +kernel
theorem dX5_firstOfWindow_44 : decode cX5_firstOfWindow 44 = .ok (.iload 5, 2) := by decide +kernel
theorem dX5_firstOfWindow_46 : decode cX5_firstOfWindow 46 = .ok (.ireturn, 1) := by decide +kernel
theorem dX5_firstOfWindow_47 : decode cX5_firstOfWindow 47 = .ok (.iinc 5 1, 3) := by decide +kernel
theorem dX5_firstOfWindow_50 : decode cX5_firstOfWindow 50 = .ok (.goto (-23), 3) := by decide +kernel
theorem dX5_firstOfWindow_53 : decode cX5_firstOfWindow 53 = .ok (.iconst (-1), 1) := by decide +kernel
theorem dX5_firstOfWindow_54 : decode cX5_firstOfWindow 54 = .ok (.ireturn, 1) := by decide +kernel
theorem dX5_hoursOfWindow_0 : decode cX5_hoursOfWindow 0 = .ok (.iconst 0, 1) := by decide +kernel
theorem dX5_hoursOfWindow_1 : decode cX5_hoursOfWindow 1 = .ok (.istore_n 2, 1) := by decide +kernel
theorem dX5_hoursOfWindow_2 : decode cX5_hoursOfWindow 2 = .ok (.aload_n 1, 1) := by decide +kernel
theorem dX5_hoursOfWindow_3 : decode cX5_hoursOfWindow 3 = .ok (.getfield 99, 3) := by decide +kernel
theorem dX5_hoursOfWindow_6 : decode cX5_hoursOfWindow 6 = .ok (.istore_n 3, 1) := by decide +kernel
theorem dX5_hoursOfWindow_7 : decode cX5_hoursOfWindow 7 = .ok (.iload_n 3, 1) := by decide +kernel
theorem dX5_hoursOfWindow_8 : decode cX5_hoursOfWindow 8 = .ok (.aload_n 1, 1) := by decide +kernel
theorem dX5_hoursOfWindow_9 : decode cX5_hoursOfWindow 9 = .ok (.getfield 105, 3) := by decide +kernel
theorem dX5_hoursOfWindow_12 : decode cX5_hoursOfWindow 12 = .ok (.if_icmp .gt 21, 3) := by decide +kernel
theorem dX5_hoursOfWindow_15 : decode cX5_hoursOfWindow 15 = .ok (.aload_n 0, 1) := by decide +kernel
theorem dX5_hoursOfWindow_16 : decode cX5_hoursOfWindow 16 = .ok (.aload_n 1, 1) := by decide +kernel
theorem dX5_hoursOfWindow_17 : decode cX5_hoursOfWindow 17 = .ok (.iload_n 3, 1) := by decide +kernel
theorem dX5_hoursOfWindow_18 : decode cX5_hoursOfWindow 18 = .ok (.invokevirtual 111, 3) := by decide +kernel
theorem dX5_hoursOfWindow_21 : decode cX5_hoursOfWindow 21 = .ok (.ifCond .eq 6, 3) := by decide +kernel
theorem dX5_hoursOfWindow_24 : decode cX5_hoursOfWindow 24 = .ok (.iinc 2 1, 3) := by decide +kernel
theorem dX5_hoursOfWindow_27 : decode cX5_hoursOfWindow 27 = .ok (.iinc 3 1, 3) := by decide +kernel
theorem dX5_hoursOfWindow_30 : decode cX5_hoursOfWindow 30 = .ok (.goto (-23), 3) := by decide +kernel
theorem dX5_hoursOfWindow_33 : decode cX5_hoursOfWindow 33 = .ok (.iload_n 2, 1) := by decide +kernel
theorem dX5_hoursOfWindow_34 : decode cX5_hoursOfWindow 34 = .ok (.ireturn, 1) := by decide +kernel
theorem dX5_restedFrom_0 : decode cX5_restedFrom 0 = .ok (.aload_n 1, 1) := by decide +kernel
theorem dX5_restedFrom_1 : decode cX5_restedFrom 1 = .ok (.invokevirtual 115, 3) := by decide +kernel
theorem dX5_restedFrom_4 : decode cX5_restedFrom 4 = .ok (.astore_n 2, 1) := by decide +kernel
theorem dX5_restedFrom_5 : decode cX5_restedFrom 5 = .ok (.aload_n 2, 1) := by decide +kernel
theorem dX5_restedFrom_6 : decode cX5_restedFrom 6 = .ok (.ifnonnull 5, 3) := by decide +kernel
theorem dX5_restedFrom_9 : decode cX5_restedFrom 9 = .ok (.iconst 0, 1) := by decide +kernel
theorem dX5_restedFrom_10 : decode cX5_restedFrom 10 = .ok (.ireturn, 1) := by decide +kernel
theorem dX5_restedFrom_11 : decode cX5_restedFrom 11 = .ok (.aload_n 2, 1) := by decide +kernel
theorem dX5_restedFrom_12 : decode cX5_restedFrom 12 = .ok (.getfield 119, 3) := by decide +kernel
theorem dX5_restedFrom_15 : decode cX5_restedFrom 15 = .ok (.aload_n 0, 1) := by decide +kernel
theorem dX5_restedFrom_16 : decode cX5_restedFrom 16 = .ok (.getfield 9, 3) := by decide +kernel
theorem dX5_restedFrom_19 : decode cX5_restedFrom 19 = .ok (.iconst 0, 1) := by decide +kernel
theorem dX5_restedFrom_20 : decode cX5_restedFrom 20 = .ok (.iaload, 1) := by decide +kernel
theorem dX5_restedFrom_21 : decode cX5_restedFrom 21 = .ok (.iadd, 1) := by decide +kernel
theorem dX5_restedFrom_22 : decode cX5_restedFrom 22 = .ok (.aload_n 2, 1) := by decide +kernel
theorem dX5_restedFrom_23 : decode cX5_restedFrom 23 = .ok (.invokevirtual 124, 3) := by decide +kernel
theorem dX5_restedFrom_26 : decode cX5_restedFrom 26 = .ok (.ifCond .eq 12, 3) := by decide +kernel
theorem dX5_restedFrom_29 : decode cX5_restedFrom 29 = .ok (.aload_n 0, 1) := by decide +kernel
