theorem dX6_readItem_75 : decode cX6_readItem 75 = .ok (.aload_n 0, 1) := by decide +kernel
theorem dX6_readItem_76 : decode cX6_readItem 76 = .ok (.aload_n 0, 1) := by decide +kernel
theorem dX6_readItem_77 : decode cX6_readItem 77 = .ok (.invokevirtual 47, 3) := by decide +kernel
theorem dX6_readItem_80 : decode cX6_readItem 80 = .ok (.putfield 51, 3) := by decide +kernel
theorem dX6_readItem_83 : decode cX6_readItem 83 = .ok (.iload_n 1, 1) := by decide +kernel
theorem dX6_readItem_84 : decode cX6_readItem 84 = .ok (.bipush 100, 2) := by decide +kernel
theorem dX6_readItem_86 : decode cX6_readItem 86 = .ok (.if_icmp .eq 17, 3) := by decide +kernel
theorem dX6_readItem_89 : decode cX6_readItem 89 = .ok (.aload_n 0, 1) := by decide +kernel
theorem dX6_readItem_90 : decode cX6_readItem 90 = .ok (.getfield 51, 3) := by decide +kernel
theorem dX6_readItem_93 : decode cX6_readItem 93 = .ok (.iconst (-1), 1) := by decide +kernel
theorem dX6_readItem_94 : decode cX6_readItem 94 = .ok (.if_icmp .eq 7, 3) := by decide +kernel
theorem dX6_readItem_97 : decode cX6_readItem 97 = .ok (.iconst 1, 1) := by decide +kernel
theorem dX6_readItem_98 : decode cX6_readItem 98 = .ok (.goto 4, 3) := by decide +kernel
theorem dX6_readItem_101 : decode cX6_readItem 101 = .ok (.iconst 0, 1) := by decide +kernel
theorem dX6_readItem_102 : decode cX6_readItem 102 = .ok (.ireturn, 1) := by decide +kernel
theorem dX6_readItem_103 : decode cX6_readItem 103 = .ok (.aload_n 0, 1) := by decide +kernel
theorem dX6_readItem_104 : decode cX6_readItem 104 = .ok (.getfield 51, 3) := by decide +kernel
theorem dX6_readItem_107 : decode cX6_readItem 107 = .ok (.iconst (-1), 1) := by decide +kernel
theorem dX6_readItem_108 : decode cX6_readItem 108 = .ok (.if_icmp .eq 12, 3) := by decide +kernel
theorem dX6_readItem_111 : decode cX6_readItem 111 = .ok (.aload_n 0, 1) := by decide +kernel
theorem dX6_readItem_112 : decode cX6_readItem 112 = .ok (.bipush 43, 2) := by decide +kernel
theorem dX6_readItem_114 : decode cX6_readItem 114 = .ok (.invokevirtual 29, 3) := by decide +kernel
theorem dX6_readItem_117 : decode cX6_readItem 117 = .ok (.ifCond .ne 5, 3) := by decide +kernel
theorem dX6_readItem_120 : decode cX6_readItem 120 = .ok (.iconst 0, 1) := by decide +kernel
theorem dX6_readItem_121 : decode cX6_readItem 121 = .ok (.ireturn, 1) := by decide +kernel
theorem dX6_readItem_122 : decode cX6_readItem 122 = .ok (.aload_n 0, 1) := by decide +kernel
theorem dX6_readItem_123 : decode cX6_readItem 123 = .ok (.aload_n 0, 1) := by decide +kernel
theorem dX6_readItem_124 : decode cX6_readItem 124 = .ok (.invokevirtual 47, 3) := by decide +kernel
theorem dX6_readItem_127 : decode cX6_readItem 127 = .ok (.putfield 54, 3) := by decide +kernel
theorem dX6_readItem_130 : decode cX6_readItem 130 = .ok (.aload_n 0, 1) := by decide +kernel
theorem dX6_readItem_131 : decode cX6_readItem 131 = .ok (.getfield 54, 3) := by decide +kernel
theorem dX6_readItem_134 : decode cX6_readItem 134 = .ok (.iconst (-1), 1) := by decide +kernel
theorem dX6_readItem_135 : decode cX6_readItem 135 = .ok (.if_icmp .eq 7, 3) := by decide +kernel
theorem dX6_readItem_138 : decode cX6_readItem 138 = .ok (.iconst 1, 1) := by decide +kernel
theorem dX6_readItem_139 : decode cX6_readItem 139 = .ok (.goto 4, 3) := by decide +kernel
theorem dX6_readItem_142 : decode cX6_readItem 142 = .ok (.iconst 0, 1) := by decide +kernel
theorem dX6_readItem_143 : decode cX6_readItem 143 = .ok (.ireturn, 1) := by decide +kernel
theorem dX6_readOrder_0 : decode cX6_readOrder 0 = .ok (.aload_n 0, 1) := by decide +kernel
theorem dX6_readOrder_1 : decode cX6_readOrder 1 = .ok (.aload_n 0, 1) := by decide +kernel
theorem dX6_readOrder_2 : decode cX6_readOrder 2 = .ok (.invokevirtual 33, 3) := by decide +kernel
theorem dX6_readOrder_5 : decode cX6_readOrder 5 = .ok (.putfield 43, 3) := by decide +kernel
theorem dX6_readOrder_8 : decode cX6_readOrder 8 = .ok (.aload_n 0, 1) := by decide +kernel
theorem dX6_readOrder_9 : decode cX6_readOrder 9 = .ok (.bipush 105, 2) := by decide +kernel
theorem dX6_readOrder_11 : decode cX6_readOrder 11 = .ok (.invokevirtual 29, 3) := by decide +kernel
theorem dX6_readOrder_14 : decode cX6_readOrder 14 = .ok (.ifCond .ne 14, 3) := by decide +kernel
theorem dX6_readOrder_17 : decode cX6_readOrder 17 = .ok (.aload_n 0, 1) := by decide +kernel
theorem dX6_readOrder_18 : decode cX6_readOrder 18 = .ok (.bipush 111, 2) := by decide +kernel
theorem dX6_readOrder_20 : decode cX6_readOrder 20 = .ok (.invokevirtual 29, 3) := by decide +kernel
theorem dX6_readOrder_23 : decode cX6_readOrder 23 = .ok (.ifCond .ne 5, 3) := by decide +kernel
theorem dX6_readOrder_26 : decode cX6_readOrder 26 = .ok (.iconst 0, 1) := by decide +kernel
theorem dX6_readOrder_27 : decode cX6_readOrder 27 = .ok (.ireturn, 1) := by decide +kernel
theorem dX6_readOrder_28 : decode cX6_readOrder 28 = .ok (.aload_n 0, 1) := by decide +kernel
theorem dX6_readOrder_29 : decode cX6_readOrder 29 = .ok (.aload_n 0, 1) := by decide +kernel
theorem dX6_readOrder_30 : decode cX6_readOrder 30 = .ok (.invokevirtual 47, 3) := by decide +kernel
theorem dX6_readOrder_33 : decode cX6_readOrder 33 = .ok (.putfield 51, 3) := by decide +kernel
theorem dX6_readOrder_36 : decode cX6_readOrder 36 = .ok (.aload_n 0, 1) := by decide +kernel
theorem dX6_readOrder_37 : decode cX6_readOrder 37 = .ok (.getfield 51, 3) := by decide +kernel
theorem dX6_readOrder_40 : decode cX6_readOrder 40 = .ok (.iconst (-1), 1) := by decide +kernel
theorem dX6_readOrder_41 : decode cX6_readOrder 41 = .ok (.if_icmp .eq 12, 3) := by decide +kernel
theorem dX6_readOrder_44 : decode cX6_readOrder 44 = .ok (.aload_n 0, 1) := by decide +kernel
theorem dX6_readOrder_45 : decode cX6_readOrder 45 = .ok (.bipush 64, 2) := by decide +kernel
theorem dX6_readOrder_47 : decode cX6_readOrder 47 = .ok (.invokevirtual 29, 3) := by decide +kernel
theorem dX6_readOrder_50 : decode cX6_readOrder 50 = .ok (.ifCond .ne 5, 3) := by decide +kernel
theorem dX6_readOrder_53 : decode cX6_readOrder 53 = .ok (.iconst 0, 1) := by decide +kernel
theorem dX6_readOrder_54 : decode cX6_readOrder 54 = .ok (.ireturn, 1) := by decide +kernel
theorem dX6_readOrder_55 : decode cX6_readOrder 55 = .ok (.aload_n 0, 1) := by decide +kernel
theorem dX6_readOrder_56 : decode cX6_readOrder 56 = .ok (.aload_n 0, 1) := by decide +kernel
theorem dX6_readOrder_57 : decode cX6_readOrder 57 = .ok (.invokevirtual 47, 3) := by decide +kernel
theorem dX6_readOrder_60 : decode cX6_readOrder 60 = .ok (.putfield 54, 3) := by decide +kernel
theorem dX6_readOrder_63 : decode cX6_readOrder 63 = .ok (.aload_n 0, 1) := by decide +kernel
theorem dX6_readOrder_64 : decode cX6_readOrder 64 = .ok (.getfield 54, 3) := by decide +kernel
theorem dX6_readOrder_67 : decode cX6_readOrder 67 = .ok (.iconst (-1), 1) := by decide +kernel
theorem dX6_readOrder_68 : decode cX6_readOrder 68 = .ok (.if_icmp .eq 12, 3) := by decide +kernel
theorem dX6_readOrder_71 : decode cX6_readOrder 71 = .ok (.aload_n 0, 1) := by decide +kernel
theorem dX6_readOrder_72 : decode cX6_readOrder 72 = .ok (.bipush 45, 2) := by decide +kernel
theorem dX6_readOrder_74 : decode cX6_readOrder 74 = .ok (.invokevirtual 29, 3) := by decide +kernel
theorem dX6_readOrder_77 : decode cX6_readOrder 77 = .ok (.ifCond .ne 5, 3) := by decide +kernel
theorem dX6_readOrder_80 : decode cX6_readOrder 80 = .ok (.iconst 0, 1) := by decide +kernel
theorem dX6_readOrder_81 : decode cX6_readOrder 81 = .ok (.ireturn, 1) := by decide +kernel
theorem dX6_readOrder_82 : decode cX6_readOrder 82 = .ok (.aload_n 0, 1) := by decide +kernel
theorem dX6_readOrder_83 : decode cX6_readOrder 83 = .ok (.aload_n 0, 1) := by decide +kernel
theorem dX6_readOrder_84 : decode cX6_readOrder 84 = .ok (.invokevirtual 47, 3) := by decide +kernel
theorem dX6_readOrder_87 : decode cX6_readOrder 87 = .ok (.putfield 57, 3) := by decide +kernel
theorem dX6_readOrder_90 : decode cX6_readOrder 90 = .ok (.aload_n 0, 1) := by decide +kernel
theorem dX6_readOrder_91 : decode cX6_readOrder 91 = .ok (.getfield 57, 3) := by decide +kernel
theorem dX6_readOrder_94 : decode cX6_readOrder 94 = .ok (.iconst (-1), 1) := by decide +kernel
theorem dX6_readOrder_95 : decode cX6_readOrder 95 = .ok (.if_icmp .eq 7, 3) := by decide +kernel
theorem dX6_readOrder_98 : decode cX6_readOrder 98 = .ok (.iconst 1, 1) := by decide +kernel
theorem dX6_readOrder_99 : decode cX6_readOrder 99 = .ok (.goto 4, 3) := by decide +kernel
theorem dX6_readOrder_102 : decode cX6_readOrder 102 = .ok (.iconst 0, 1) := by decide +kernel
theorem dX6_readOrder_103 : decode cX6_readOrder 103 = .ok (.ireturn, 1) := by decide +kernel
theorem dX6_readNumber_0 : decode cX6_readNumber 0 = .ok (.iconst (-1), 1) := by decide +kernel
theorem dX6_readNumber_1 : decode cX6_readNumber 1 = .ok (.istore_n 1, 1) := by decide +kernel
theorem dX6_readNumber_2 : decode cX6_readNumber 2 = .ok (.iconst 0, 1) := by decide +kernel
theorem dX6_readNumber_3 : decode cX6_readNumber 3 = .ok (.istore_n 2, 1) := by decide +kernel
theorem dX6_readNumber_4 : decode cX6_readNumber 4 = .ok (.iload_n 2, 1) := by decide +kernel
theorem dX6_readNumber_5 : decode cX6_readNumber 5 = .ok (.iconst 3, 1) := by decide +kernel
theorem dX6_readNumber_6 : decode cX6_readNumber 6 = .ok (.if_icmp .ge 46, 3) := by decide +kernel
theorem dX6_readNumber_9 : decode cX6_readNumber 9 = .ok (.aload_n 0, 1) := by decide +kernel
theorem dX6_readNumber_10 : decode cX6_readNumber 10 = .ok (.invokevirtual 33, 3) := by decide +kernel
theorem dX6_readNumber_13 : decode cX6_readNumber 13 = .ok (.invokestatic 60, 3) := by decide +kernel
theorem dX6_readNumber_16 : decode cX6_readNumber 16 = .ok (.ifCond .eq 36, 3) := by decide +kernel
theorem dX6_readNumber_19 : decode cX6_readNumber 19 = .ok (.iload_n 1, 1) := by decide +kernel
theorem dX6_readNumber_20 : decode cX6_readNumber 20 = .ok (.iconst 0, 1) := by decide +kernel
theorem dX6_readNumber_21 : decode cX6_readNumber 21 = .ok (.invokestatic 63, 3) := by decide +kernel
theorem dX6_readNumber_24 : decode cX6_readNumber 24 = .ok (.bipush 10, 2) := by decide +kernel
theorem dX6_readNumber_26 : decode cX6_readNumber 26 = .ok (.imul, 1) := by decide +kernel
theorem dX6_readNumber_27 : decode cX6_readNumber 27 = .ok (.aload_n 0, 1) := by decide +kernel
theorem dX6_readNumber_28 : decode cX6_readNumber 28 = .ok (.invokevirtual 33, 3) := by decide +kernel
theorem dX6_readNumber_31 : decode cX6_readNumber 31 = .ok (.bipush 48, 2) := by decide +kernel
theorem dX6_readNumber_33 : decode cX6_readNumber 33 = .ok (.isub, 1) := by decide +kernel
theorem dX6_readNumber_34 : decode cX6_readNumber 34 = .ok (.iadd, 1) := by decide +kernel
theorem dX6_readNumber_35 : decode cX6_readNumber 35 = .ok (.istore_n 1, 1) := by decide +kernel
theorem dX6_readNumber_36 : decode cX6_readNumber 36 = .ok (.aload_n 0, 1) := by decide +kernel
theorem dX6_readNumber_37 : decode cX6_readNumber 37 = .ok (.dup, 1) := by decide +kernel
theorem dX6_readNumber_38 : decode cX6_readNumber 38 = .ok (.getfield 19, 3) := by decide +kernel
theorem dX6_readNumber_41 : decode cX6_readNumber 41 = .ok (.iconst 1, 1) := by decide +kernel
theorem dX6_readNumber_42 : decode cX6_readNumber 42 = .ok (.iadd, 1) := by decide +kernel
theorem dX6_readNumber_43 : decode cX6_readNumber 43 = .ok (.putfield 19, 3) := by decide +kernel
theorem dX6_readNumber_46 : decode cX6_readNumber 46 = .ok (.iinc 2 1, 3) := by decide +kernel
theorem dX6_readNumber_49 : decode cX6_readNumber 49 = .ok (.goto (-45), 3) := by decide +kernel
theorem dX6_readNumber_52 : decode cX6_readNumber 52 = .ok (.iload_n 1, 1) := by decide +kernel
theorem dX6_readNumber_53 : decode cX6_readNumber 53 = .ok (.ireturn, 1) := by decide +kernel
theorem dX6_isDigit_0 : decode cX6_isDigit 0 = .ok (.iload_n 0, 1) := by decide +kernel
theorem dX6_isDigit_1 : decode cX6_isDigit 1 = .ok (.bipush 48, 2) := by decide +kernel
theorem dX6_isDigit_3 : decode cX6_isDigit 3 = .ok (.if_icmp .lt 13, 3) := by decide +kernel
theorem dX6_isDigit_6 : decode cX6_isDigit 6 = .ok (.iload_n 0, 1) := by decide +kernel
theorem dX6_isDigit_7 : decode cX6_isDigit 7 = .ok (.bipush 57, 2) := by decide +kernel
theorem dX6_isDigit_9 : decode cX6_isDigit 9 = .ok (.if_icmp .gt 7, 3) := by decide +kernel
theorem dX6_isDigit_12 : decode cX6_isDigit 12 = .ok (.iconst 1, 1) := by decide +kernel
theorem dX6_isDigit_13 : decode cX6_isDigit 13 = .ok (.goto 4, 3) := by decide +kernel
theorem dX6_isDigit_16 : decode cX6_isDigit 16 = .ok (.iconst 0, 1) := by decide +kernel
theorem dX6_isDigit_17 : decode cX6_isDigit 17 = .ok (.ireturn, 1) := by decide +kernel
theorem dX6_accept_0 : decode cX6_accept 0 = .ok (.aload_n 0, 1) := by decide +kernel
theorem dX6_accept_1 : decode cX6_accept 1 = .ok (.invokevirtual 33, 3) := by decide +kernel
theorem dX6_accept_4 : decode cX6_accept 4 = .ok (.iload_n 1, 1) := by decide +kernel
theorem dX6_accept_5 : decode cX6_accept 5 = .ok (.if_icmp .eq 5, 3) := by decide +kernel
theorem dX6_accept_8 : decode cX6_accept 8 = .ok (.iconst 0, 1) := by decide +kernel
theorem dX6_accept_9 : decode cX6_accept 9 = .ok (.ireturn, 1) := by decide +kernel
theorem dX6_accept_10 : decode cX6_accept 10 = .ok (.aload_n 0, 1) := by decide +kernel
theorem dX6_accept_11 : decode cX6_accept 11 = .ok (.dup, 1) := by decide +kernel
theorem dX6_accept_12 : decode cX6_accept 12 = .ok (.getfield 19, 3) := by decide +kernel
theorem dX6_accept_15 : decode cX6_accept 15 = .ok (.iconst 1, 1) := by decide +kernel
theorem dX6_accept_16 : decode cX6_accept 16 = .ok (.iadd, 1) := by decide +kernel
theorem dX6_accept_17 : decode cX6_accept 17 = .ok (.putfield 19, 3) := by decide +kernel
theorem dX6_accept_20 : decode cX6_accept 20 = .ok (.iconst 1, 1) := by decide +kernel
theorem dX6_accept_21 : decode cX6_accept 21 = .ok (.ireturn, 1) := by decide +kernel
theorem dX6_peek_0 : decode cX6_peek 0 = .ok (.aload_n 0, 1) := by decide +kernel
theorem dX6_peek_1 : decode cX6_peek 1 = .ok (.getfield 19, 3) := by decide +kernel
theorem dX6_peek_4 : decode cX6_peek 4 = .ok (.ifCond .lt 26, 3) := by decide +kernel
theorem dX6_peek_7 : decode cX6_peek 7 = .ok (.aload_n 0, 1) := by decide +kernel
theorem dX6_peek_8 : decode cX6_peek 8 = .ok (.getfield 19, 3) := by decide +kernel
theorem dX6_peek_11 : decode cX6_peek 11 = .ok (.aload_n 0, 1) := by decide +kernel
theorem dX6_peek_12 : decode cX6_peek 12 = .ok (.getfield 15, 3) := by decide +kernel
theorem dX6_peek_15 : decode cX6_peek 15 = .ok (.if_icmp .ge 15, 3) := by decide +kernel
theorem dX6_peek_18 : decode cX6_peek 18 = .ok (.aload_n 0, 1) := by decide +kernel
theorem dX6_peek_19 : decode cX6_peek 19 = .ok (.getfield 9, 3) := by decide +kernel
theorem dX6_peek_22 : decode cX6_peek 22 = .ok (.aload_n 0, 1) := by decide +kernel
theorem dX6_peek_23 : decode cX6_peek 23 = .ok (.getfield 19, 3) := by decide +kernel
theorem dX6_peek_26 : decode cX6_peek 26 = .ok (.caload, 1) := by decide +kernel
theorem dX6_peek_27 : decode cX6_peek 27 = .ok (.goto 4, 3) := by decide +kernel
theorem dX6_peek_30 : decode cX6_peek 30 = .ok (.iconst 0, 1) := by decide +kernel
theorem dX6_peek_31 : decode cX6_peek 31 = .ok (.ireturn, 1) := by decide +kernel
theorem dX7_init_0 : decode cX7_init 0 = .ok (.aload_n 0, 1) := by decide +kernel
theorem dX7_init_1 : decode cX7_init 1 = .ok (.invokespecial 1, 3) := by decide +kernel
theorem dX7_init_4 : decode cX7_init 4 = .ok (.return_, 1) := by decide +kernel
theorem dX7_set_0 : decode cX7_set 0 = .ok (.aload_n 0, 1) := by decide +kernel
theorem dX7_set_1 : decode cX7_set 1 = .ok (.iload_n 1, 1) := by decide +kernel
theorem dX7_set_2 : decode cX7_set 2 = .ok (.putfield 7, 3) := by decide +kernel
theorem dX7_set_5 : decode cX7_set 5 = .ok (.aload_n 0, 1) := by decide +kernel
theorem dX7_set_6 : decode cX7_set 6 = .ok (.iload_n 2, 1) := by decide +kernel
theorem dX7_set_7 : decode cX7_set 7 = .ok (.putfield 13, 3) := by decide +kernel
theorem dX7_set_10 : decode cX7_set 10 = .ok (.aload_n 0, 1) := by decide +kernel
theorem dX7_set_11 : decode cX7_set 11 = .ok (.iload_n 3, 1) := by decide +kernel
theorem dX7_set_12 : decode cX7_set 12 = .ok (.putfield 16, 3) := by decide +kernel
theorem dX7_set_15 : decode cX7_set 15 = .ok (.return_, 1) := by decide +kernel
theorem dX8_init_0 : decode cX8_init 0 = .ok (.aload_n 0, 1) := by decide +kernel
theorem dX8_init_1 : decode cX8_init 1 = .ok (.invokespecial 1, 3) := by decide +kernel
theorem dX8_init_4 : decode cX8_init 4 = .ok (.aload_n 0, 1) := by decide +kernel
theorem dX8_init_5 : decode cX8_init 5 = .ok (.new 7, 3) := by decide +kernel
theorem dX8_init_8 : decode cX8_init 8 = .ok (.dup, 1) := by decide +kernel
theorem dX8_init_9 : decode cX8_init 9 = .ok (.invokespecial 9, 3) := by decide +kernel
theorem dX8_init_12 : decode cX8_init 12 = .ok (.putfield 10, 3) := by decide +kernel
theorem dX8_init_15 : decode cX8_init 15 = .ok (.aload_n 0, 1) := by decide +kernel
theorem dX8_init_16 : decode cX8_init 16 = .ok (.new 7, 3) := by decide +kernel
theorem dX8_init_19 : decode cX8_init 19 = .ok (.dup, 1) := by decide +kernel
theorem dX8_init_20 : decode cX8_init 20 = .ok (.invokespecial 9, 3) := by decide +kernel
theorem dX8_init_23 : decode cX8_init 23 = .ok (.putfield 16, 3) := by decide +kernel
theorem dX8_init_26 : decode cX8_init 26 = .ok (.aload_n 0, 1) := by decide +kernel
theorem dX8_init_27 : decode cX8_init 27 = .ok (.new 19, 3) := by decide +kernel
theorem dX8_init_30 : decode cX8_init 30 = .ok (.dup, 1) := by decide +kernel
theorem dX8_init_31 : decode cX8_init 31 = .ok (.invokespecial 21, 3) := by decide +kernel
theorem dX8_init_34 : decode cX8_init 34 = .ok (.putfield 22, 3) := by decide +kernel
theorem dX8_init_37 : decode cX8_init 37 = .ok (.aload_n 0, 1) := by decide +kernel
theorem dX8_init_38 : decode cX8_init 38 = .ok (.new 26, 3) := by decide +kernel
theorem dX8_init_41 : decode cX8_init 41 = .ok (.dup, 1) := by decide +kernel
theorem dX8_init_42 : decode cX8_init 42 = .ok (.invokespecial 28, 3) := by decide +kernel
theorem dX8_init_45 : decode cX8_init 45 = .ok (.putfield 29, 3) := by decide +kernel
theorem dX8_init_48 : decode cX8_init 48 = .ok (.aload_n 0, 1) := by decide +kernel
theorem dX8_init_49 : decode cX8_init 49 = .ok (.new 33, 3) := by decide +kernel
theorem dX8_init_52 : decode cX8_init 52 = .ok (.dup, 1) := by decide +kernel
theorem dX8_init_53 : decode cX8_init 53 = .ok (.invokespecial 35, 3) := by decide +kernel
theorem dX8_init_56 : decode cX8_init 56 = .ok (.putfield 36, 3) := by decide +kernel
theorem dX8_init_59 : decode cX8_init 59 = .ok (.aload_n 0, 1) := by decide +kernel
theorem dX8_init_60 : decode cX8_init 60 = .ok (.bipush 16, 2) := by decide +kernel
theorem dX8_init_62 : decode cX8_init 62 = .ok (.newarray .int, 2) := by decide +kernel
theorem dX8_init_64 : decode cX8_init 64 = .ok (.putfield 40, 3) := by decide +kernel
theorem dX8_init_67 : decode cX8_init 67 = .ok (.aload_n 0, 1) := by decide +kernel
theorem dX8_init_68 : decode cX8_init 68 = .ok (.iconst (-1), 1) := by decide +kernel
theorem dX8_init_69 : decode cX8_init 69 = .ok (.putfield 44, 3) := by decide +kernel
theorem dX8_init_72 : decode cX8_init 72 = .ok (.aload_n 0, 1) := by decide +kernel
theorem dX8_init_73 : decode cX8_init 73 = .ok (.iconst 0, 1) := by decide +kernel
theorem dX8_init_74 : decode cX8_init 74 = .ok (.putfield 48, 3) := by decide +kernel
theorem dX8_init_77 : decode cX8_init 77 = .ok (.return_, 1) := by decide +kernel
theorem dX8_rule_0 : decode cX8_rule 0 = .ok (.iload_n 1, 1) := by decide +kernel
theorem dX8_rule_1 : decode cX8_rule 1 = .ok (.ifCond .lt 8, 3) := by decide +kernel
theorem dX8_rule_4 : decode cX8_rule 4 = .ok (.iload_n 1, 1) := by decide +kernel
theorem dX8_rule_5 : decode cX8_rule 5 = .ok (.iconst 5, 1) := by decide +kernel
theorem dX8_rule_6 : decode cX8_rule 6 = .ok (.if_icmp .lt 13, 3) := by decide +kernel
theorem dX8_rule_9 : decode cX8_rule 9 = .ok (.new 51, 3) := by decide +kernel
theorem dX8_rule_12 : decode cX8_rule 12 = .ok (.dup, 1) := by decide +kernel
theorem dX8_rule_13 : decode cX8_rule 13 = .ok (.ldc 53, 2) := by decide +kernel
theorem dX8_rule_15 : decode cX8_rule 15 = .ok (.invokespecial 55, 3) := by decide +kernel
theorem dX8_rule_18 : decode cX8_rule 18 = .ok (.athrow, 1) := by decide +kernel
theorem dX8_rule_19 : decode cX8_rule 19 = .ok (.iload_n 2, 1) := by decide +kernel
theorem dX8_rule_20 : decode cX8_rule 20 = .ok (.getstatic 58, 3) := by decide +kernel
theorem dX8_rule_23 : decode cX8_rule 23 = .ok (.iload_n 1, 1) := by decide +kernel
theorem dX8_rule_24 : decode cX8_rule 24 = .ok (.iaload, 1) := by decide +kernel
theorem dX8_rule_25 : decode cX8_rule 25 = .ok (.if_icmp .lt 12, 3) := by decide +kernel
theorem dX8_rule_28 : decode cX8_rule 28 = .ok (.iload_n 2, 1) := by decide +kernel
theorem dX8_rule_29 : decode cX8_rule 29 = .ok (.getstatic 61, 3) := by decide +kernel
theorem dX8_rule_32 : decode cX8_rule 32 = .ok (.iload_n 1, 1) := by decide +kernel
theorem dX8_rule_33 : decode cX8_rule 33 = .ok (.iaload, 1) := by decide +kernel
theorem dX8_rule_34 : decode cX8_rule 34 = .ok (.if_icmp .le 13, 3) := by decide +kernel
theorem dX8_rule_37 : decode cX8_rule 37 = .ok (.new 51, 3) := by decide +kernel
theorem dX8_rule_40 : decode cX8_rule 40 = .ok (.dup, 1) := by decide +kernel
theorem dX8_rule_41 : decode cX8_rule 41 = .ok (.ldc 64, 2) := by decide +kernel
theorem dX8_rule_43 : decode cX8_rule 43 = .ok (.invokespecial 55, 3) := by decide +kernel
theorem dX8_rule_46 : decode cX8_rule 46 = .ok (.athrow, 1) := by decide +kernel
theorem dX8_rule_47 : decode cX8_rule 47 = .ok (.aload_n 0, 1) := by decide +kernel
theorem dX8_rule_48 : decode cX8_rule 48 = .ok (.getfield 22, 3) := by decide +kernel
theorem dX8_rule_51 : decode cX8_rule 51 = .ok (.aload_n 0, 1) := by decide +kernel
theorem dX8_rule_52 : decode cX8_rule 52 = .ok (.getfield 10, 3) := by decide +kernel
theorem dX8_rule_55 : decode cX8_rule 55 = .ok (.invokevirtual 66, 3) := by decide +kernel
theorem dX8_rule_58 : decode cX8_rule 58 = .ok (.aload_n 0, 1) := by decide +kernel
theorem dX8_rule_59 : decode cX8_rule 59 = .ok (.getfield 10, 3) := by decide +kernel
theorem dX8_rule_62 : decode cX8_rule 62 = .ok (.getfield 70, 3) := by decide +kernel
theorem dX8_rule_65 : decode cX8_rule 65 = .ok (.iload_n 1, 1) := by decide +kernel
theorem dX8_rule_66 : decode cX8_rule 66 = .ok (.iaload, 1) := by decide +kernel
theorem dX8_rule_67 : decode cX8_rule 67 = .ok (.istore_n 3, 1) := by decide +kernel
theorem dX8_rule_68 : decode cX8_rule 68 = .ok (.aload_n 0, 1) := by decide +kernel
theorem dX8_rule_69 : decode cX8_rule 69 = .ok (.getfield 10, 3) := by decide +kernel
theorem dX8_rule_72 : decode cX8_rule 72 = .ok (.getfield 70, 3) := by decide +kernel
theorem dX8_rule_75 : decode cX8_rule 75 = .ok (.iload_n 1, 1) := by decide +kernel
theorem dX8_rule_76 : decode cX8_rule 76 = .ok (.iload_n 2, 1) := by decide +kernel
theorem dX8_rule_77 : decode cX8_rule 77 = .ok (.iastore, 1) := by decide +kernel
theorem dX8_rule_78 : decode cX8_rule 78 = .ok (.iload_n 3, 1) := by decide +kernel
theorem dX8_rule_79 : decode cX8_rule 79 = .ok (.ireturn, 1) := by decide +kernel
theorem dX8_tide_0 : decode cX8_tide 0 = .ok (.iload_n 1, 1) := by decide +kernel
theorem dX8_tide_1 : decode cX8_tide 1 = .ok (.ifCond .lt 9, 3) := by decide +kernel
theorem dX8_tide_4 : decode cX8_tide 4 = .ok (.iload_n 1, 1) := by decide +kernel
theorem dX8_tide_5 : decode cX8_tide 5 = .ok (.bipush 12, 2) := by decide +kernel
theorem dX8_tide_7 : decode cX8_tide 7 = .ok (.if_icmp .lt 13, 3) := by decide +kernel
theorem dX8_tide_10 : decode cX8_tide 10 = .ok (.new 51, 3) := by decide +kernel
theorem dX8_tide_13 : decode cX8_tide 13 = .ok (.dup, 1) := by decide +kernel
theorem dX8_tide_14 : decode cX8_tide 14 = .ok (.ldc 73, 2) := by decide +kernel
theorem dX8_tide_16 : decode cX8_tide 16 = .ok (.invokespecial 55, 3) := by decide +kernel
theorem dX8_tide_19 : decode cX8_tide 19 = .ok (.athrow, 1) := by decide +kernel
theorem dX8_tide_20 : decode cX8_tide 20 = .ok (.iload_n 2, 1) := by decide +kernel
theorem dX8_tide_21 : decode cX8_tide 21 = .ok (.ifCond .lt 9, 3) := by decide +kernel
theorem dX8_tide_24 : decode cX8_tide 24 = .ok (.iload_n 2, 1) := by decide +kernel
theorem dX8_tide_25 : decode cX8_tide 25 = .ok (.bipush 9, 2) := by decide +kernel
theorem dX8_tide_27 : decode cX8_tide 27 = .ok (.if_icmp .le 13, 3) := by decide +kernel
theorem dX8_tide_30 : decode cX8_tide 30 = .ok (.new 51, 3) := by decide +kernel
theorem dX8_tide_33 : decode cX8_tide 33 = .ok (.dup, 1) := by decide +kernel
theorem dX8_tide_34 : decode cX8_tide 34 = .ok (.ldc 75, 2) := by decide +kernel
theorem dX8_tide_36 : decode cX8_tide 36 = .ok (.invokespecial 55, 3) := by decide +kernel
theorem dX8_tide_39 : decode cX8_tide 39 = .ok (.athrow, 1) := by decide +kernel
theorem dX8_tide_40 : decode cX8_tide 40 = .ok (.aload_n 0, 1) := by decide +kernel
theorem dX8_tide_41 : decode cX8_tide 41 = .ok (.getfield 22, 3) := by decide +kernel
theorem dX8_tide_44 : decode cX8_tide 44 = .ok (.aload_n 0, 1) := by decide +kernel
theorem dX8_tide_45 : decode cX8_tide 45 = .ok (.getfield 10, 3) := by decide +kernel
theorem dX8_tide_48 : decode cX8_tide 48 = .ok (.invokevirtual 66, 3) := by decide +kernel
theorem dX8_tide_51 : decode cX8_tide 51 = .ok (.aload_n 0, 1) := by decide +kernel
theorem dX8_tide_52 : decode cX8_tide 52 = .ok (.getfield 10, 3) := by decide +kernel
theorem dX8_tide_55 : decode cX8_tide 55 = .ok (.getfield 77, 3) := by decide +kernel
theorem dX8_tide_58 : decode cX8_tide 58 = .ok (.iload_n 1, 1) := by decide +kernel
theorem dX8_tide_59 : decode cX8_tide 59 = .ok (.iaload, 1) := by decide +kernel
theorem dX8_tide_60 : decode cX8_tide 60 = .ok (.istore_n 3, 1) := by decide +kernel
theorem dX8_tide_61 : decode cX8_tide 61 = .ok (.aload_n 0, 1) := by decide +kernel
theorem dX8_tide_62 : decode cX8_tide 62 = .ok (.getfield 10, 3) := by decide +kernel
theorem dX8_tide_65 : decode cX8_tide 65 = .ok (.getfield 77, 3) := by decide +kernel
theorem dX8_tide_68 : decode cX8_tide 68 = .ok (.iload_n 1, 1) := by decide +kernel
theorem dX8_tide_69 : decode cX8_tide 69 = .ok (.iload_n 2, 1) := by decide +kernel
theorem dX8_tide_70 : decode cX8_tide 70 = .ok (.iastore, 1) := by decide +kernel
theorem dX8_tide_71 : decode cX8_tide 71 = .ok (.iload_n 3, 1) := by decide +kernel
theorem dX8_tide_72 : decode cX8_tide 72 = .ok (.ireturn, 1) := by decide +kernel
theorem dX8_depth_0 : decode cX8_depth 0 = .ok (.iload_n 1, 1) := by decide +kernel
theorem dX8_depth_1 : decode cX8_depth 1 = .ok (.invokestatic 80, 3) := by decide +kernel
theorem dX8_depth_4 : decode cX8_depth 4 = .ok (.aload_n 0, 1) := by decide +kernel
theorem dX8_depth_5 : decode cX8_depth 5 = .ok (.getfield 10, 3) := by decide +kernel
theorem dX8_depth_8 : decode cX8_depth 8 = .ok (.iload_n 1, 1) := by decide +kernel
theorem dX8_depth_9 : decode cX8_depth 9 = .ok (.invokevirtual 84, 3) := by decide +kernel
theorem dX8_depth_12 : decode cX8_depth 12 = .ok (.ireturn, 1) := by decide +kernel
theorem dX8_addPilot_0 : decode cX8_addPilot 0 = .ok (.iload_n 1, 1) := by decide +kernel
theorem dX8_addPilot_1 : decode cX8_addPilot 1 = .ok (.iconst 1, 1) := by decide +kernel
theorem dX8_addPilot_2 : decode cX8_addPilot 2 = .ok (.if_icmp .lt 8, 3) := by decide +kernel
theorem dX8_addPilot_5 : decode cX8_addPilot 5 = .ok (.iload_n 1, 1) := by decide +kernel
theorem dX8_addPilot_6 : decode cX8_addPilot 6 = .ok (.iconst 4, 1) := by decide +kernel
theorem dX8_addPilot_7 : decode cX8_addPilot 7 = .ok (.if_icmp .le 13, 3) := by decide +kernel
theorem dX8_addPilot_10 : decode cX8_addPilot 10 = .ok (.new 51, 3) := by decide +kernel
theorem dX8_addPilot_13 : decode cX8_addPilot 13 = .ok (.dup, 1) := by decide +kernel
theorem dX8_addPilot_14 : decode cX8_addPilot 14 = .ok (.ldc 88, 2) := by decide +kernel
theorem dX8_addPilot_16 : decode cX8_addPilot 16 = .ok (.invokespecial 55, 3) := by decide +kernel
theorem dX8_addPilot_19 : decode cX8_addPilot 19 = .ok (.athrow, 1) := by decide +kernel
theorem dX8_addPilot_20 : decode cX8_addPilot 20 = .ok (.aload_n 0, 1) := by decide +kernel
theorem dX8_addPilot_21 : decode cX8_addPilot 21 = .ok (.getfield 10, 3) := by decide +kernel
theorem dX8_addPilot_24 : decode cX8_addPilot 24 = .ok (.getfield 90, 3) := by decide +kernel
theorem dX8_addPilot_27 : decode cX8_addPilot 27 = .ok (.bipush 6, 2) := by decide +kernel
theorem dX8_addPilot_29 : decode cX8_addPilot 29 = .ok (.if_icmp .lt 13, 3) := by decide +kernel
theorem dX8_addPilot_32 : decode cX8_addPilot 32 = .ok (.new 93, 3) := by decide +kernel
theorem dX8_addPilot_35 : decode cX8_addPilot 35 = .ok (.dup, 1) := by decide +kernel
theorem dX8_addPilot_36 : decode cX8_addPilot 36 = .ok (.ldc 95, 2) := by decide +kernel
theorem dX8_addPilot_38 : decode cX8_addPilot 38 = .ok (.invokespecial 97, 3) := by decide +kernel
theorem dX8_addPilot_41 : decode cX8_addPilot 41 = .ok (.athrow, 1) := by decide +kernel
theorem dX8_addPilot_42 : decode cX8_addPilot 42 = .ok (.aload_n 0, 1) := by decide +kernel
theorem dX8_addPilot_43 : decode cX8_addPilot 43 = .ok (.getfield 22, 3) := by decide +kernel
theorem dX8_addPilot_46 : decode cX8_addPilot 46 = .ok (.aload_n 0, 1) := by decide +kernel
theorem dX8_addPilot_47 : decode cX8_addPilot 47 = .ok (.getfield 10, 3) := by decide +kernel
theorem dX8_addPilot_50 : decode cX8_addPilot 50 = .ok (.invokevirtual 66, 3) := by decide +kernel
theorem dX8_addPilot_53 : decode cX8_addPilot 53 = .ok (.aload_n 0, 1) := by decide +kernel
theorem dX8_addPilot_54 : decode cX8_addPilot 54 = .ok (.getfield 10, 3) := by decide +kernel
theorem dX8_addPilot_57 : decode cX8_addPilot 57 = .ok (.iload_n 1, 1) := by decide +kernel
theorem dX8_addPilot_58 : decode cX8_addPilot 58 = .ok (.invokevirtual 98, 3) := by decide +kernel
theorem dX8_addPilot_61 : decode cX8_addPilot 61 = .ok (.ireturn, 1) := by decide +kernel
theorem dX8_addBoat_0 : decode cX8_addBoat 0 = .ok (.iload_n 1, 1) := by decide +kernel
theorem dX8_addBoat_1 : decode cX8_addBoat 1 = .ok (.iconst 1, 1) := by decide +kernel
theorem dX8_addBoat_2 : decode cX8_addBoat 2 = .ok (.if_icmp .lt 8, 3) := by decide +kernel
theorem dX8_addBoat_5 : decode cX8_addBoat 5 = .ok (.iload_n 1, 1) := by decide +kernel
theorem dX8_addBoat_6 : decode cX8_addBoat 6 = .ok (.iconst 4, 1) := by decide +kernel
theorem dX8_addBoat_7 : decode cX8_addBoat 7 = .ok (.if_icmp .le 13, 3) := by decide +kernel
theorem dX8_addBoat_10 : decode cX8_addBoat 10 = .ok (.new 51, 3) := by decide +kernel
theorem dX8_addBoat_13 : decode cX8_addBoat 13 = .ok (.dup, 1) := by decide +kernel
theorem dX8_addBoat_14 : decode cX8_addBoat 14 = .ok (.ldc 101, 2) := by decide +kernel
theorem dX8_addBoat_16 : decode cX8_addBoat 16 = .ok (.invokespecial 55, 3) := by decide +kernel
theorem dX8_addBoat_19 : decode cX8_addBoat 19 = .ok (.athrow, 1) := by decide +kernel
theorem dX8_addBoat_20 : decode cX8_addBoat 20 = .ok (.aload_n 0, 1) := by decide +kernel
theorem dX8_addBoat_21 : decode cX8_addBoat 21 = .ok (.getfield 10, 3) := by decide +kernel
theorem dX8_addBoat_24 : decode cX8_addBoat 24 = .ok (.getfield 103, 3) := by decide +kernel
theorem dX8_addBoat_27 : decode cX8_addBoat 27 = .ok (.iconst 3, 1) := by decide +kernel
theorem dX8_addBoat_28 : decode cX8_addBoat 28 = .ok (.if_icmp .lt 13, 3) := by decide +kernel
theorem dX8_addBoat_31 : decode cX8_addBoat 31 = .ok (.new 93, 3) := by decide +kernel
theorem dX8_addBoat_34 : decode cX8_addBoat 34 = .ok (.dup, 1) := by decide +kernel
theorem dX8_addBoat_35 : decode cX8_addBoat 35 = .ok (.ldc 106, 2) := by decide +kernel
theorem dX8_addBoat_37 : decode cX8_addBoat 37 = .ok (.invokespecial 97, 3) := by decide +kernel
theorem dX8_addBoat_40 : decode cX8_addBoat 40 = .ok (.athrow, 1) := by decide +kernel
theorem dX8_addBoat_41 : decode cX8_addBoat 41 = .ok (.aload_n 0, 1) := by decide +kernel
theorem dX8_addBoat_42 : decode cX8_addBoat 42 = .ok (.getfield 22, 3) := by decide +kernel
theorem dX8_addBoat_45 : decode cX8_addBoat 45 = .ok (.aload_n 0, 1) := by decide +kernel
theorem dX8_addBoat_46 : decode cX8_addBoat 46 = .ok (.getfield 10, 3) := by decide +kernel
theorem dX8_addBoat_49 : decode cX8_addBoat 49 = .ok (.invokevirtual 66, 3) := by decide +kernel
theorem dX8_addBoat_52 : decode cX8_addBoat 52 = .ok (.aload_n 0, 1) := by decide +kernel
theorem dX8_addBoat_53 : decode cX8_addBoat 53 = .ok (.getfield 10, 3) := by decide +kernel
theorem dX8_addBoat_56 : decode cX8_addBoat 56 = .ok (.iload_n 1, 1) := by decide +kernel
theorem dX8_addBoat_57 : decode cX8_addBoat 57 = .ok (.invokevirtual 108, 3) := by decide +kernel
theorem dX8_addBoat_60 : decode cX8_addBoat 60 = .ok (.ireturn, 1) := by decide +kernel
theorem dX8_order_0 : decode cX8_order 0 = .ok (.aload_n 0, 1) := by decide +kernel
theorem dX8_order_1 : decode cX8_order 1 = .ok (.getfield 10, 3) := by decide +kernel
theorem dX8_order_4 : decode cX8_order 4 = .ok (.iload_n 1, 1) := by decide +kernel
theorem dX8_order_5 : decode cX8_order 5 = .ok (.iload_n 3, 1) := by decide +kernel
theorem dX8_order_6 : decode cX8_order 6 = .ok (.iload 4, 2) := by decide +kernel
theorem dX8_order_8 : decode cX8_order 8 = .ok (.iload 5, 2) := by decide +kernel
theorem dX8_order_10 : decode cX8_order 10 = .ok (.invokevirtual 111, 3) := by decide +kernel
theorem dX8_order_13 : decode cX8_order 13 = .ok (.ifCond .ne 13, 3) := by decide +kernel
theorem dX8_order_16 : decode cX8_order 16 = .ok (.new 51, 3) := by decide +kernel
theorem dX8_order_19 : decode cX8_order 19 = .ok (.dup, 1) := by decide +kernel
theorem dX8_order_20 : decode cX8_order 20 = .ok (.ldc 115, 2) := by decide +kernel
theorem dX8_order_22 : decode cX8_order 22 = .ok (.invokespecial 55, 3) := by decide +kernel
theorem dX8_order_25 : decode cX8_order 25 = .ok (.athrow, 1) := by decide +kernel
theorem dX8_order_26 : decode cX8_order 26 = .ok (.aload_n 0, 1) := by decide +kernel
theorem dX8_order_27 : decode cX8_order 27 = .ok (.getfield 10, 3) := by decide +kernel
theorem dX8_order_30 : decode cX8_order 30 = .ok (.getfield 117, 3) := by decide +kernel
theorem dX8_order_33 : decode cX8_order 33 = .ok (.bipush 16, 2) := by decide +kernel
theorem dX8_order_35 : decode cX8_order 35 = .ok (.if_icmp .lt 13, 3) := by decide +kernel
theorem dX8_order_38 : decode cX8_order 38 = .ok (.new 93, 3) := by decide +kernel
theorem dX8_order_41 : decode cX8_order 41 = .ok (.dup, 1) := by decide +kernel
theorem dX8_order_42 : decode cX8_order 42 = .ok (.ldc 120, 2) := by decide +kernel
theorem dX8_order_44 : decode cX8_order 44 = .ok (.invokespecial 97, 3) := by decide +kernel
theorem dX8_order_47 : decode cX8_order 47 = .ok (.athrow, 1) := by decide +kernel
theorem dX8_order_48 : decode cX8_order 48 = .ok (.aload_n 0, 1) := by decide +kernel
theorem dX8_order_49 : decode cX8_order 49 = .ok (.getfield 22, 3) := by decide +kernel
theorem dX8_order_52 : decode cX8_order 52 = .ok (.aload_n 0, 1) := by decide +kernel
theorem dX8_order_53 : decode cX8_order 53 = .ok (.getfield 10, 3) := by decide +kernel
theorem dX8_order_56 : decode cX8_order 56 = .ok (.invokevirtual 66, 3) := by decide +kernel
theorem dX8_order_59 : decode cX8_order 59 = .ok (.aload_n 0, 1) := by decide +kernel
theorem dX8_order_60 : decode cX8_order 60 = .ok (.getfield 10, 3) := by decide +kernel
theorem dX8_order_63 : decode cX8_order 63 = .ok (.iload_n 1, 1) := by decide +kernel
theorem dX8_order_64 : decode cX8_order 64 = .ok (.iload_n 2, 1) := by decide +kernel
theorem dX8_order_65 : decode cX8_order 65 = .ok (.ifCond .eq 7, 3) := by decide +kernel
theorem dX8_order_68 : decode cX8_order 68 = .ok (.iconst 1, 1) := by decide +kernel
theorem dX8_order_69 : decode cX8_order 69 = .ok (.goto 4, 3) := by decide +kernel
theorem dX8_order_72 : decode cX8_order 72 = .ok (.iconst 0, 1) := by decide +kernel
theorem dX8_order_73 : decode cX8_order 73 = .ok (.iload_n 3, 1) := by decide +kernel
theorem dX8_order_74 : decode cX8_order 74 = .ok (.iload 4, 2) := by decide +kernel
theorem dX8_order_76 : decode cX8_order 76 = .ok (.iload 5, 2) := by decide +kernel
theorem dX8_order_78 : decode cX8_order 78 = .ok (.invokevirtual 122, 3) := by decide +kernel
theorem dX8_order_81 : decode cX8_order 81 = .ok (.ireturn, 1) := by decide +kernel
theorem dX8_orderOf_0 : decode cX8_orderOf 0 = .ok (.aload_n 0, 1) := by decide +kernel
theorem dX8_orderOf_1 : decode cX8_orderOf 1 = .ok (.iload_n 1, 1) := by decide +kernel
theorem dX8_orderOf_2 : decode cX8_orderOf 2 = .ok (.invokevirtual 126, 3) := by decide +kernel
theorem dX8_orderOf_5 : decode cX8_orderOf 5 = .ok (.aload_n 0, 1) := by decide +kernel
theorem dX8_orderOf_6 : decode cX8_orderOf 6 = .ok (.getfield 10, 3) := by decide +kernel
theorem dX8_orderOf_9 : decode cX8_orderOf 9 = .ok (.getfield 129, 3) := by decide +kernel
theorem dX8_orderOf_12 : decode cX8_orderOf 12 = .ok (.iload_n 1, 1) := by decide +kernel
theorem dX8_orderOf_13 : decode cX8_orderOf 13 = .ok (.aaload, 1) := by decide +kernel
theorem dX8_orderOf_14 : decode cX8_orderOf 14 = .ok (.astore_n 3, 1) := by decide +kernel
theorem dX8_orderOf_15 : decode cX8_orderOf 15 = .ok (.iload_n 2, 1) := by decide +kernel
theorem dX8_orderOf_16 : decode cX8_orderOf 16 = .ok (.tableswitch 119 0 10 #[60, 65, 70, 75, 80, 85, 90, 95, 100, 105, 110], 60) := by decide +kernel
theorem dX8_orderOf_76 : decode cX8_orderOf 76 = .ok (.aload_n 3, 1) := by decide +kernel
theorem dX8_orderOf_77 : decode cX8_orderOf 77 = .ok (.getfield 133, 3) := by decide +kernel
theorem dX8_orderOf_80 : decode cX8_orderOf 80 = .ok (.ireturn, 1) := by decide +kernel
theorem dX8_orderOf_81 : decode cX8_orderOf 81 = .ok (.aload_n 3, 1) := by decide +kernel
theorem dX8_orderOf_82 : decode cX8_orderOf 82 = .ok (.getfield 138, 3) := by decide +kernel
theorem dX8_orderOf_85 : decode cX8_orderOf 85 = .ok (.ireturn, 1) := by decide +kernel
theorem dX8_orderOf_86 : decode cX8_orderOf 86 = .ok (.aload_n 3, 1) := by decide +kernel
theorem dX8_orderOf_87 : decode cX8_orderOf 87 = .ok (.getfield 141, 3) := by decide +kernel
theorem dX8_orderOf_90 : decode cX8_orderOf 90 = .ok (.ireturn, 1) := by decide +kernel
theorem dX8_orderOf_91 : decode cX8_orderOf 91 = .ok (.aload_n 3, 1) := by decide +kernel
theorem dX8_orderOf_92 : decode cX8_orderOf 92 = .ok (.getfield 144, 3) := by decide +kernel
theorem dX8_orderOf_95 : decode cX8_orderOf 95 = .ok (.ireturn, 1) := by decide +kernel
theorem dX8_orderOf_96 : decode cX8_orderOf 96 = .ok (.aload_n 3, 1) := by decide +kernel
theorem dX8_orderOf_97 : decode cX8_orderOf 97 = .ok (.getfield 147, 3) := by decide +kernel
theorem dX8_orderOf_100 : decode cX8_orderOf 100 = .ok (.ireturn, 1) := by decide +kernel
theorem dX8_orderOf_101 : decode cX8_orderOf 101 = .ok (.aload_n 3, 1) := by decide +kernel
theorem dX8_orderOf_102 : decode cX8_orderOf 102 = .ok (.getfield 150, 3) := by decide +kernel
theorem dX8_orderOf_105 : decode cX8_orderOf 105 = .ok (.ireturn, 1) := by decide +kernel
theorem dX8_orderOf_106 : decode cX8_orderOf 106 = .ok (.aload_n 3, 1) := by decide +kernel
theorem dX8_orderOf_107 : decode cX8_orderOf 107 = .ok (.getfield 153, 3) := by decide +kernel
theorem dX8_orderOf_110 : decode cX8_orderOf 110 = .ok (.ireturn, 1) := by decide +kernel
theorem dX8_orderOf_111 : decode cX8_orderOf 111 = .ok (.aload_n 3, 1) := by decide +kernel
theorem dX8_orderOf_112 : decode cX8_orderOf 112 = .ok (.getfield 156, 3) := by decide +kernel
theorem dX8_orderOf_115 : decode cX8_orderOf 115 = .ok (.ireturn, 1) := by decide +kernel
theorem dX8_orderOf_116 : decode cX8_orderOf 116 = .ok (.aload_n 3, 1) := by decide +kernel
theorem dX8_orderOf_117 : decode cX8_orderOf 117 = .ok (.getfield 159, 3) := by decide +kernel
theorem dX8_orderOf_120 : decode cX8_orderOf 120 = .ok (.ireturn, 1) := by decide +kernel
theorem dX8_orderOf_121 : decode cX8_orderOf 121 = .ok (.aload_n 3, 1) := by decide +kernel
theorem dX8_orderOf_122 : decode cX8_orderOf 122 = .ok (.getfield 162, 3) := by decide +kernel
theorem dX8_orderOf_125 : decode cX8_orderOf 125 = .ok (.ireturn, 1) := by decide +kernel
theorem dX8_orderOf_126 : decode cX8_orderOf 126 = .ok (.aload_n 0, 1) := by decide +kernel
theorem dX8_orderOf_127 : decode cX8_orderOf 127 = .ok (.getfield 10, 3) := by decide +kernel
theorem dX8_orderOf_130 : decode cX8_orderOf 130 = .ok (.aload_n 3, 1) := by decide +kernel
theorem dX8_orderOf_131 : decode cX8_orderOf 131 = .ok (.invokevirtual 165, 3) := by decide +kernel
theorem dX8_orderOf_134 : decode cX8_orderOf 134 = .ok (.ireturn, 1) := by decide +kernel
theorem dX8_orderOf_135 : decode cX8_orderOf 135 = .ok (.new 51, 3) := by decide +kernel
theorem dX8_orderOf_138 : decode cX8_orderOf 138 = .ok (.dup, 1) := by decide +kernel
theorem dX8_orderOf_139 : decode cX8_orderOf 139 = .ok (.ldc 169, 2) := by decide +kernel
theorem dX8_orderOf_141 : decode cX8_orderOf 141 = .ok (.invokespecial 55, 3) := by decide +kernel
theorem dX8_orderOf_144 : decode cX8_orderOf 144 = .ok (.athrow, 1) := by decide +kernel
theorem dX8_window_0 : decode cX8_window 0 = .ok (.aload_n 0, 1) := by decide +kernel
theorem dX8_window_1 : decode cX8_window 1 = .ok (.iload_n 1, 1) := by decide +kernel
theorem dX8_window_2 : decode cX8_window 2 = .ok (.invokevirtual 126, 3) := by decide +kernel
theorem dX8_window_5 : decode cX8_window 5 = .ok (.iload_n 2, 1) := by decide +kernel
theorem dX8_window_6 : decode cX8_window 6 = .ok (.invokestatic 80, 3) := by decide +kernel
theorem dX8_window_9 : decode cX8_window 9 = .ok (.aload_n 0, 1) := by decide +kernel
theorem dX8_window_10 : decode cX8_window 10 = .ok (.getfield 10, 3) := by decide +kernel
theorem dX8_window_13 : decode cX8_window 13 = .ok (.aload_n 0, 1) := by decide +kernel
theorem dX8_window_14 : decode cX8_window 14 = .ok (.getfield 10, 3) := by decide +kernel
theorem dX8_window_17 : decode cX8_window 17 = .ok (.getfield 129, 3) := by decide +kernel
theorem dX8_window_20 : decode cX8_window 20 = .ok (.iload_n 1, 1) := by decide +kernel
theorem dX8_window_21 : decode cX8_window 21 = .ok (.aaload, 1) := by decide +kernel
theorem dX8_window_22 : decode cX8_window 22 = .ok (.iload_n 2, 1) := by decide +kernel
theorem dX8_window_23 : decode cX8_window 23 = .ok (.invokevirtual 171, 3) := by decide +kernel
theorem dX8_window_26 : decode cX8_window 26 = .ok (.istore_n 3, 1) := by decide +kernel
theorem dX8_window_27 : decode cX8_window 27 = .ok (.iload_n 3, 1) := by decide +kernel
theorem dX8_window_28 : decode cX8_window 28 = .ok (.iconst (-1), 1) := by decide +kernel
theorem dX8_window_29 : decode cX8_window 29 = .ok (.if_icmp .ne 13, 3) := by decide +kernel
theorem dX8_window_32 : decode cX8_window 32 = .ok (.new 175, 3) := by decide +kernel
theorem dX8_window_35 : decode cX8_window 35 = .ok (.dup, 1) := by decide +kernel
theorem dX8_window_36 : decode cX8_window 36 = .ok (.ldc 177, 2) := by decide +kernel
theorem dX8_window_38 : decode cX8_window 38 = .ok (.invokespecial 179, 3) := by decide +kernel
theorem dX8_window_41 : decode cX8_window 41 = .ok (.athrow, 1) := by decide +kernel
theorem dX8_window_42 : decode cX8_window 42 = .ok (.iload_n 3, 1) := by decide +kernel
theorem dX8_window_43 : decode cX8_window 43 = .ok (.ireturn, 1) := by decide +kernel
theorem dX8_hinders_0 : decode cX8_hinders 0 = .ok (.aload_n 0, 1) := by decide +kernel
theorem dX8_hinders_1 : decode cX8_hinders 1 = .ok (.iload_n 1, 1) := by decide +kernel
theorem dX8_hinders_2 : decode cX8_hinders 2 = .ok (.invokevirtual 126, 3) := by decide +kernel
theorem dX8_hinders_5 : decode cX8_hinders 5 = .ok (.aload_n 0, 1) := by decide +kernel
theorem dX8_hinders_6 : decode cX8_hinders 6 = .ok (.iload_n 2, 1) := by decide +kernel
theorem dX8_hinders_7 : decode cX8_hinders 7 = .ok (.invokevirtual 180, 3) := by decide +kernel
theorem dX8_hinders_10 : decode cX8_hinders 10 = .ok (.iload_n 3, 1) := by decide +kernel
theorem dX8_hinders_11 : decode cX8_hinders 11 = .ok (.invokestatic 80, 3) := by decide +kernel
theorem dX8_hinders_14 : decode cX8_hinders 14 = .ok (.aload_n 0, 1) := by decide +kernel
theorem dX8_hinders_15 : decode cX8_hinders 15 = .ok (.getfield 10, 3) := by decide +kernel
theorem dX8_hinders_18 : decode cX8_hinders 18 = .ok (.aload_n 0, 1) := by decide +kernel
theorem dX8_hinders_19 : decode cX8_hinders 19 = .ok (.getfield 10, 3) := by decide +kernel
theorem dX8_hinders_22 : decode cX8_hinders 22 = .ok (.getfield 129, 3) := by decide +kernel
theorem dX8_hinders_25 : decode cX8_hinders 25 = .ok (.iload_n 1, 1) := by decide +kernel
theorem dX8_hinders_26 : decode cX8_hinders 26 = .ok (.aaload, 1) := by decide +kernel
theorem dX8_hinders_27 : decode cX8_hinders 27 = .ok (.aload_n 0, 1) := by decide +kernel
theorem dX8_hinders_28 : decode cX8_hinders 28 = .ok (.getfield 10, 3) := by decide +kernel
theorem dX8_hinders_31 : decode cX8_hinders 31 = .ok (.getfield 183, 3) := by decide +kernel
theorem dX8_hinders_34 : decode cX8_hinders 34 = .ok (.iload_n 2, 1) := by decide +kernel
theorem dX8_hinders_35 : decode cX8_hinders 35 = .ok (.aaload, 1) := by decide +kernel
theorem dX8_hinders_36 : decode cX8_hinders 36 = .ok (.iload_n 3, 1) := by decide +kernel
theorem dX8_hinders_37 : decode cX8_hinders 37 = .ok (.invokevirtual 187, 3) := by decide +kernel
theorem dX8_hinders_40 : decode cX8_hinders 40 = .ok (.ireturn, 1) := by decide +kernel
theorem dX8_plan_0 : decode cX8_plan 0 = .ok (.aload_n 0, 1) := by decide +kernel
theorem dX8_plan_1 : decode cX8_plan 1 = .ok (.iload_n 1, 1) := by decide +kernel
theorem dX8_plan_2 : decode cX8_plan 2 = .ok (.invokevirtual 126, 3) := by decide +kernel
theorem dX8_plan_5 : decode cX8_plan 5 = .ok (.aload_n 0, 1) := by decide +kernel
theorem dX8_plan_6 : decode cX8_plan 6 = .ok (.iload_n 2, 1) := by decide +kernel
theorem dX8_plan_7 : decode cX8_plan 7 = .ok (.invokevirtual 180, 3) := by decide +kernel
theorem dX8_plan_10 : decode cX8_plan 10 = .ok (.iload_n 3, 1) := by decide +kernel
theorem dX8_plan_11 : decode cX8_plan 11 = .ok (.invokestatic 80, 3) := by decide +kernel
theorem dX8_plan_14 : decode cX8_plan 14 = .ok (.aload_n 0, 1) := by decide +kernel
theorem dX8_plan_15 : decode cX8_plan 15 = .ok (.aload_n 0, 1) := by decide +kernel
theorem dX8_plan_16 : decode cX8_plan 16 = .ok (.getfield 10, 3) := by decide +kernel
theorem dX8_plan_19 : decode cX8_plan 19 = .ok (.aload_n 0, 1) := by decide +kernel
theorem dX8_plan_20 : decode cX8_plan 20 = .ok (.getfield 10, 3) := by decide +kernel
theorem dX8_plan_23 : decode cX8_plan 23 = .ok (.getfield 129, 3) := by decide +kernel
theorem dX8_plan_26 : decode cX8_plan 26 = .ok (.iload_n 1, 1) := by decide +kernel
theorem dX8_plan_27 : decode cX8_plan 27 = .ok (.aaload, 1) := by decide +kernel
theorem dX8_plan_28 : decode cX8_plan 28 = .ok (.aload_n 0, 1) := by decide +kernel
theorem dX8_plan_29 : decode cX8_plan 29 = .ok (.getfield 10, 3) := by decide +kernel
theorem dX8_plan_32 : decode cX8_plan 32 = .ok (.getfield 183, 3) := by decide +kernel
theorem dX8_plan_35 : decode cX8_plan 35 = .ok (.iload_n 2, 1) := by decide +kernel
theorem dX8_plan_36 : decode cX8_plan 36 = .ok (.aaload, 1) := by decide +kernel
theorem dX8_plan_37 : decode cX8_plan 37 = .ok (.iload_n 3, 1) := by decide +kernel
theorem dX8_plan_38 : decode cX8_plan 38 = .ok (.invokevirtual 187, 3) := by decide +kernel
theorem dX8_plan_41 : decode cX8_plan 41 = .ok (.invokevirtual 191, 3) := by decide +kernel
theorem dX8_plan_44 : decode cX8_plan 44 = .ok (.aload_n 0, 1) := by decide +kernel
theorem dX8_plan_45 : decode cX8_plan 45 = .ok (.getfield 22, 3) := by decide +kernel
theorem dX8_plan_48 : decode cX8_plan 48 = .ok (.aload_n 0, 1) := by decide +kernel
theorem dX8_plan_49 : decode cX8_plan 49 = .ok (.getfield 10, 3) := by decide +kernel
theorem dX8_plan_52 : decode cX8_plan 52 = .ok (.invokevirtual 66, 3) := by decide +kernel
theorem dX8_plan_55 : decode cX8_plan 55 = .ok (.aload_n 0, 1) := by decide +kernel
theorem dX8_plan_56 : decode cX8_plan 56 = .ok (.getfield 10, 3) := by decide +kernel
theorem dX8_plan_59 : decode cX8_plan 59 = .ok (.iload_n 1, 1) := by decide +kernel
theorem dX8_plan_60 : decode cX8_plan 60 = .ok (.iload_n 2, 1) := by decide +kernel
theorem dX8_plan_61 : decode cX8_plan 61 = .ok (.iload_n 3, 1) := by decide +kernel
theorem dX8_plan_62 : decode cX8_plan 62 = .ok (.invokevirtual 194, 3) := by decide +kernel
theorem dX8_plan_65 : decode cX8_plan 65 = .ok (.aload_n 0, 1) := by decide +kernel
theorem dX8_plan_66 : decode cX8_plan 66 = .ok (.getfield 10, 3) := by decide +kernel
theorem dX8_plan_69 : decode cX8_plan 69 = .ok (.getfield 129, 3) := by decide +kernel
theorem dX8_plan_72 : decode cX8_plan 72 = .ok (.iload_n 1, 1) := by decide +kernel
theorem dX8_plan_73 : decode cX8_plan 73 = .ok (.aaload, 1) := by decide +kernel
theorem dX8_plan_74 : decode cX8_plan 74 = .ok (.getfield 159, 3) := by decide +kernel
theorem dX8_plan_77 : decode cX8_plan 77 = .ok (.ireturn, 1) := by decide +kernel
theorem dX8_run_0 : decode cX8_run 0 = .ok (.aload_n 0, 1) := by decide +kernel
theorem dX8_run_1 : decode cX8_run 1 = .ok (.getfield 10, 3) := by decide +kernel
theorem dX8_run_4 : decode cX8_run 4 = .ok (.iload_n 1, 1) := by decide +kernel
theorem dX8_run_5 : decode cX8_run 5 = .ok (.invokevirtual 198, 3) := by decide +kernel
theorem dX8_run_8 : decode cX8_run 8 = .ok (.ifCond .ne 13, 3) := by decide +kernel
theorem dX8_run_11 : decode cX8_run 11 = .ok (.new 202, 3) := by decide +kernel
theorem dX8_run_14 : decode cX8_run 14 = .ok (.dup, 1) := by decide +kernel
theorem dX8_run_15 : decode cX8_run 15 = .ok (.ldc 204, 2) := by decide +kernel
theorem dX8_run_17 : decode cX8_run 17 = .ok (.invokespecial 206, 3) := by decide +kernel
theorem dX8_run_20 : decode cX8_run 20 = .ok (.athrow, 1) := by decide +kernel
theorem dX8_run_21 : decode cX8_run 21 = .ok (.iload_n 2, 1) := by decide +kernel
theorem dX8_run_22 : decode cX8_run 22 = .ok (.ifCond .lt 10, 3) := by decide +kernel
theorem dX8_run_25 : decode cX8_run 25 = .ok (.iload_n 2, 1) := by decide +kernel
theorem dX8_run_26 : decode cX8_run 26 = .ok (.sipush 900, 3) := by decide +kernel
theorem dX8_run_29 : decode cX8_run 29 = .ok (.if_icmp .le 13, 3) := by decide +kernel
theorem dX8_run_32 : decode cX8_run 32 = .ok (.new 202, 3) := by decide +kernel
theorem dX8_run_35 : decode cX8_run 35 = .ok (.dup, 1) := by decide +kernel
theorem dX8_run_36 : decode cX8_run 36 = .ok (.ldc 207, 2) := by decide +kernel
theorem dX8_run_38 : decode cX8_run 38 = .ok (.invokespecial 206, 3) := by decide +kernel
theorem dX8_run_41 : decode cX8_run 41 = .ok (.athrow, 1) := by decide +kernel
theorem dX8_run_42 : decode cX8_run 42 = .ok (.iload_n 3, 1) := by decide +kernel
theorem dX8_run_43 : decode cX8_run 43 = .ok (.aload_n 0, 1) := by decide +kernel
theorem dX8_run_44 : decode cX8_run 44 = .ok (.getfield 10, 3) := by decide +kernel
theorem dX8_run_47 : decode cX8_run 47 = .ok (.getfield 90, 3) := by decide +kernel
theorem dX8_run_50 : decode cX8_run 50 = .ok (.ishr, 1) := by decide +kernel
theorem dX8_run_51 : decode cX8_run 51 = .ok (.ifCond .eq 13, 3) := by decide +kernel
theorem dX8_run_54 : decode cX8_run 54 = .ok (.new 51, 3) := by decide +kernel
theorem dX8_run_57 : decode cX8_run 57 = .ok (.dup, 1) := by decide +kernel
theorem dX8_run_58 : decode cX8_run 58 = .ok (.ldc 209, 2) := by decide +kernel
theorem dX8_run_60 : decode cX8_run 60 = .ok (.invokespecial 55, 3) := by decide +kernel
theorem dX8_run_63 : decode cX8_run 63 = .ok (.athrow, 1) := by decide +kernel
theorem dX8_run_64 : decode cX8_run 64 = .ok (.aload_n 0, 1) := by decide +kernel
theorem dX8_run_65 : decode cX8_run 65 = .ok (.aload_n 0, 1) := by decide +kernel
theorem dX8_run_66 : decode cX8_run 66 = .ok (.getfield 10, 3) := by decide +kernel
theorem dX8_run_69 : decode cX8_run 69 = .ok (.aload_n 0, 1) := by decide +kernel
theorem dX8_run_70 : decode cX8_run 70 = .ok (.getfield 10, 3) := by decide +kernel
theorem dX8_run_73 : decode cX8_run 73 = .ok (.getfield 211, 3) := by decide +kernel
theorem dX8_run_76 : decode cX8_run 76 = .ok (.iload_n 1, 1) := by decide +kernel
theorem dX8_run_77 : decode cX8_run 77 = .ok (.aaload, 1) := by decide +kernel
theorem dX8_run_78 : decode cX8_run 78 = .ok (.iload_n 2, 1) := by decide +kernel
theorem dX8_run_79 : decode cX8_run 79 = .ok (.iload_n 3, 1) := by decide +kernel
theorem dX8_run_80 : decode cX8_run 80 = .ok (.invokevirtual 215, 3) := by decide +kernel
theorem dX8_run_83 : decode cX8_run 83 = .ok (.invokevirtual 191, 3) := by decide +kernel
theorem dX8_run_86 : decode cX8_run 86 = .ok (.aload_n 0, 1) := by decide +kernel
theorem dX8_run_87 : decode cX8_run 87 = .ok (.getfield 22, 3) := by decide +kernel
theorem dX8_run_90 : decode cX8_run 90 = .ok (.aload_n 0, 1) := by decide +kernel
theorem dX8_run_91 : decode cX8_run 91 = .ok (.getfield 10, 3) := by decide +kernel
theorem dX8_run_94 : decode cX8_run 94 = .ok (.invokevirtual 66, 3) := by decide +kernel
theorem dX8_run_97 : decode cX8_run 97 = .ok (.aload_n 0, 1) := by decide +kernel
theorem dX8_run_98 : decode cX8_run 98 = .ok (.getfield 10, 3) := by decide +kernel
theorem dX8_run_101 : decode cX8_run 101 = .ok (.iload_n 1, 1) := by decide +kernel
theorem dX8_run_102 : decode cX8_run 102 = .ok (.iload_n 2, 1) := by decide +kernel
theorem dX8_run_103 : decode cX8_run 103 = .ok (.iload_n 3, 1) := by decide +kernel
theorem dX8_run_104 : decode cX8_run 104 = .ok (.invokevirtual 219, 3) := by decide +kernel
theorem dX8_run_107 : decode cX8_run 107 = .ok (.aload_n 0, 1) := by decide +kernel
theorem dX8_run_108 : decode cX8_run 108 = .ok (.getfield 10, 3) := by decide +kernel
theorem dX8_run_111 : decode cX8_run 111 = .ok (.getfield 211, 3) := by decide +kernel
theorem dX8_run_114 : decode cX8_run 114 = .ok (.iload_n 1, 1) := by decide +kernel
theorem dX8_run_115 : decode cX8_run 115 = .ok (.aaload, 1) := by decide +kernel
theorem dX8_run_116 : decode cX8_run 116 = .ok (.getfield 222, 3) := by decide +kernel
theorem dX8_run_119 : decode cX8_run 119 = .ok (.ireturn, 1) := by decide +kernel
theorem dX8_serving_0 : decode cX8_serving 0 = .ok (.aload_n 0, 1) := by decide +kernel
theorem dX8_serving_1 : decode cX8_serving 1 = .ok (.iload_n 1, 1) := by decide +kernel
theorem dX8_serving_2 : decode cX8_serving 2 = .ok (.invokevirtual 126, 3) := by decide +kernel
theorem dX8_serving_5 : decode cX8_serving 5 = .ok (.iload_n 2, 1) := by decide +kernel
theorem dX8_serving_6 : decode cX8_serving 6 = .ok (.ifCond .lt 8, 3) := by decide +kernel
theorem dX8_serving_9 : decode cX8_serving 9 = .ok (.iload_n 2, 1) := by decide +kernel
theorem dX8_serving_10 : decode cX8_serving 10 = .ok (.iconst 2, 1) := by decide +kernel
theorem dX8_serving_11 : decode cX8_serving 11 = .ok (.if_icmp .le 13, 3) := by decide +kernel
theorem dX8_serving_14 : decode cX8_serving 14 = .ok (.new 51, 3) := by decide +kernel
theorem dX8_serving_17 : decode cX8_serving 17 = .ok (.dup, 1) := by decide +kernel
theorem dX8_serving_18 : decode cX8_serving 18 = .ok (.ldc 227, 2) := by decide +kernel
theorem dX8_serving_20 : decode cX8_serving 20 = .ok (.invokespecial 55, 3) := by decide +kernel
theorem dX8_serving_23 : decode cX8_serving 23 = .ok (.athrow, 1) := by decide +kernel
theorem dX8_serving_24 : decode cX8_serving 24 = .ok (.aload_n 0, 1) := by decide +kernel
theorem dX8_serving_25 : decode cX8_serving 25 = .ok (.getfield 10, 3) := by decide +kernel
theorem dX8_serving_28 : decode cX8_serving 28 = .ok (.iload_n 1, 1) := by decide +kernel
theorem dX8_serving_29 : decode cX8_serving 29 = .ok (.aload_n 0, 1) := by decide +kernel
theorem dX8_serving_30 : decode cX8_serving 30 = .ok (.getfield 36, 3) := by decide +kernel
theorem dX8_serving_33 : decode cX8_serving 33 = .ok (.invokevirtual 229, 3) := by decide +kernel
theorem dX8_serving_36 : decode cX8_serving 36 = .ok (.ifCond .eq 13, 3) := by decide +kernel
theorem dX8_serving_39 : decode cX8_serving 39 = .ok (.new 175, 3) := by decide +kernel
theorem dX8_serving_42 : decode cX8_serving 42 = .ok (.dup, 1) := by decide +kernel
theorem dX8_serving_43 : decode cX8_serving 43 = .ok (.ldc 233, 2) := by decide +kernel
theorem dX8_serving_45 : decode cX8_serving 45 = .ok (.invokespecial 179, 3) := by decide +kernel
theorem dX8_serving_48 : decode cX8_serving 48 = .ok (.athrow, 1) := by decide +kernel
theorem dX8_serving_49 : decode cX8_serving 49 = .ok (.iload_n 2, 1) := by decide +kernel
theorem dX8_serving_50 : decode cX8_serving 50 = .ok (.ifCond .ne 13, 3) := by decide +kernel
theorem dX8_serving_53 : decode cX8_serving 53 = .ok (.aload_n 0, 1) := by decide +kernel
theorem dX8_serving_54 : decode cX8_serving 54 = .ok (.getfield 36, 3) := by decide +kernel
theorem dX8_serving_57 : decode cX8_serving 57 = .ok (.getfield 235, 3) := by decide +kernel
theorem dX8_serving_60 : decode cX8_serving 60 = .ok (.goto 25, 3) := by decide +kernel
theorem dX8_serving_63 : decode cX8_serving 63 = .ok (.iload_n 2, 1) := by decide +kernel
theorem dX8_serving_64 : decode cX8_serving 64 = .ok (.iconst 1, 1) := by decide +kernel
theorem dX8_serving_65 : decode cX8_serving 65 = .ok (.if_icmp .ne 13, 3) := by decide +kernel
theorem dX8_serving_68 : decode cX8_serving 68 = .ok (.aload_n 0, 1) := by decide +kernel
theorem dX8_serving_69 : decode cX8_serving 69 = .ok (.getfield 36, 3) := by decide +kernel
theorem dX8_serving_72 : decode cX8_serving 72 = .ok (.getfield 238, 3) := by decide +kernel
theorem dX8_serving_75 : decode cX8_serving 75 = .ok (.goto 10, 3) := by decide +kernel
theorem dX8_serving_78 : decode cX8_serving 78 = .ok (.aload_n 0, 1) := by decide +kernel
theorem dX8_serving_79 : decode cX8_serving 79 = .ok (.getfield 36, 3) := by decide +kernel
theorem dX8_serving_82 : decode cX8_serving 82 = .ok (.getfield 239, 3) := by decide +kernel
theorem dX8_serving_85 : decode cX8_serving 85 = .ok (.ireturn, 1) := by decide +kernel
theorem dX8_serve_0 : decode cX8_serve 0 = .ok (.aload_n 0, 1) := by decide +kernel
theorem dX8_serve_1 : decode cX8_serve 1 = .ok (.iload_n 1, 1) := by decide +kernel
theorem dX8_serve_2 : decode cX8_serve 2 = .ok (.invokevirtual 126, 3) := by decide +kernel
theorem dX8_serve_5 : decode cX8_serve 5 = .ok (.aload_n 0, 1) := by decide +kernel
theorem dX8_serve_6 : decode cX8_serve 6 = .ok (.aload_n 0, 1) := by decide +kernel
theorem dX8_serve_7 : decode cX8_serve 7 = .ok (.getfield 10, 3) := by decide +kernel
theorem dX8_serve_10 : decode cX8_serve 10 = .ok (.iload_n 1, 1) := by decide +kernel
theorem dX8_serve_11 : decode cX8_serve 11 = .ok (.aload_n 0, 1) := by decide +kernel
theorem dX8_serve_12 : decode cX8_serve 12 = .ok (.getfield 36, 3) := by decide +kernel
theorem dX8_serve_15 : decode cX8_serve 15 = .ok (.invokevirtual 229, 3) := by decide +kernel
theorem dX8_serve_18 : decode cX8_serve 18 = .ok (.invokevirtual 191, 3) := by decide +kernel
theorem dX8_serve_21 : decode cX8_serve 21 = .ok (.aload_n 0, 1) := by decide +kernel
theorem dX8_serve_22 : decode cX8_serve 22 = .ok (.getfield 22, 3) := by decide +kernel
theorem dX8_serve_25 : decode cX8_serve 25 = .ok (.aload_n 0, 1) := by decide +kernel
theorem dX8_serve_26 : decode cX8_serve 26 = .ok (.getfield 10, 3) := by decide +kernel
theorem dX8_serve_29 : decode cX8_serve 29 = .ok (.invokevirtual 66, 3) := by decide +kernel
theorem dX8_serve_32 : decode cX8_serve 32 = .ok (.aload_n 0, 1) := by decide +kernel
theorem dX8_serve_33 : decode cX8_serve 33 = .ok (.getfield 10, 3) := by decide +kernel
theorem dX8_serve_36 : decode cX8_serve 36 = .ok (.iload_n 1, 1) := by decide +kernel
theorem dX8_serve_37 : decode cX8_serve 37 = .ok (.aload_n 0, 1) := by decide +kernel
theorem dX8_serve_38 : decode cX8_serve 38 = .ok (.getfield 36, 3) := by decide +kernel
theorem dX8_serve_41 : decode cX8_serve 41 = .ok (.invokevirtual 242, 3) := by decide +kernel
theorem dX8_serve_44 : decode cX8_serve 44 = .ok (.aload_n 0, 1) := by decide +kernel
theorem dX8_serve_45 : decode cX8_serve 45 = .ok (.getfield 36, 3) := by decide +kernel
theorem dX8_serve_48 : decode cX8_serve 48 = .ok (.getfield 235, 3) := by decide +kernel
theorem dX8_serve_51 : decode cX8_serve 51 = .ok (.ireturn, 1) := by decide +kernel
theorem dX8_serveAll_0 : decode cX8_serveAll 0 = .ok (.aload_n 0, 1) := by decide +kernel
theorem dX8_serveAll_1 : decode cX8_serveAll 1 = .ok (.getfield 22, 3) := by decide +kernel
theorem dX8_serveAll_4 : decode cX8_serveAll 4 = .ok (.aload_n 0, 1) := by decide +kernel
theorem dX8_serveAll_5 : decode cX8_serveAll 5 = .ok (.getfield 10, 3) := by decide +kernel
theorem dX8_serveAll_8 : decode cX8_serveAll 8 = .ok (.invokevirtual 66, 3) := by decide +kernel
theorem dX8_serveAll_11 : decode cX8_serveAll 11 = .ok (.aload_n 0, 1) := by decide +kernel
theorem dX8_serveAll_12 : decode cX8_serveAll 12 = .ok (.getfield 10, 3) := by decide +kernel
theorem dX8_serveAll_15 : decode cX8_serveAll 15 = .ok (.aload_n 0, 1) := by decide +kernel
theorem dX8_serveAll_16 : decode cX8_serveAll 16 = .ok (.getfield 40, 3) := by decide +kernel
theorem dX8_serveAll_19 : decode cX8_serveAll 19 = .ok (.invokevirtual 246, 3) := by decide +kernel
theorem dX8_serveAll_22 : decode cX8_serveAll 22 = .ok (.istore_n 1, 1) := by decide +kernel
theorem dX8_serveAll_23 : decode cX8_serveAll 23 = .ok (.iconst 0, 1) := by decide +kernel
theorem dX8_serveAll_24 : decode cX8_serveAll 24 = .ok (.istore_n 2, 1) := by decide +kernel
theorem dX8_serveAll_25 : decode cX8_serveAll 25 = .ok (.iconst 0, 1) := by decide +kernel
theorem dX8_serveAll_26 : decode cX8_serveAll 26 = .ok (.istore_n 3, 1) := by decide +kernel
theorem dX8_serveAll_27 : decode cX8_serveAll 27 = .ok (.iload_n 3, 1) := by decide +kernel
theorem dX8_serveAll_28 : decode cX8_serveAll 28 = .ok (.iload_n 1, 1) := by decide +kernel
theorem dX8_serveAll_29 : decode cX8_serveAll 29 = .ok (.if_icmp .ge 49, 3) := by decide +kernel
theorem dX8_serveAll_32 : decode cX8_serveAll 32 = .ok (.aload_n 0, 1) := by decide +kernel
theorem dX8_serveAll_33 : decode cX8_serveAll 33 = .ok (.getfield 10, 3) := by decide +kernel
theorem dX8_serveAll_36 : decode cX8_serveAll 36 = .ok (.aload_n 0, 1) := by decide +kernel
theorem dX8_serveAll_37 : decode cX8_serveAll 37 = .ok (.getfield 40, 3) := by decide +kernel
theorem dX8_serveAll_40 : decode cX8_serveAll 40 = .ok (.iload_n 3, 1) := by decide +kernel
theorem dX8_serveAll_41 : decode cX8_serveAll 41 = .ok (.iaload, 1) := by decide +kernel
theorem dX8_serveAll_42 : decode cX8_serveAll 42 = .ok (.aload_n 0, 1) := by decide +kernel
theorem dX8_serveAll_43 : decode cX8_serveAll 43 = .ok (.getfield 36, 3) := by decide +kernel
theorem dX8_serveAll_46 : decode cX8_serveAll 46 = .ok (.invokevirtual 229, 3) := by decide +kernel
theorem dX8_serveAll_49 : decode cX8_serveAll 49 = .ok (.ifCond .ne 23, 3) := by decide +kernel
theorem dX8_serveAll_52 : decode cX8_serveAll 52 = .ok (.aload_n 0, 1) := by decide +kernel
theorem dX8_serveAll_53 : decode cX8_serveAll 53 = .ok (.getfield 10, 3) := by decide +kernel
theorem dX8_serveAll_56 : decode cX8_serveAll 56 = .ok (.aload_n 0, 1) := by decide +kernel
theorem dX8_serveAll_57 : decode cX8_serveAll 57 = .ok (.getfield 40, 3) := by decide +kernel
theorem dX8_serveAll_60 : decode cX8_serveAll 60 = .ok (.iload_n 3, 1) := by decide +kernel
theorem dX8_serveAll_61 : decode cX8_serveAll 61 = .ok (.iaload, 1) := by decide +kernel
theorem dX8_serveAll_62 : decode cX8_serveAll 62 = .ok (.aload_n 0, 1) := by decide +kernel
theorem dX8_serveAll_63 : decode cX8_serveAll 63 = .ok (.getfield 36, 3) := by decide +kernel
theorem dX8_serveAll_66 : decode cX8_serveAll 66 = .ok (.invokevirtual 242, 3) := by decide +kernel
theorem dX8_serveAll_69 : decode cX8_serveAll 69 = .ok (.iinc 2 1, 3) := by decide +kernel
theorem dX8_serveAll_72 : decode cX8_serveAll 72 = .ok (.iinc 3 1, 3) := by decide +kernel
theorem dX8_serveAll_75 : decode cX8_serveAll 75 = .ok (.goto (-48), 3) := by decide +kernel
theorem dX8_serveAll_78 : decode cX8_serveAll 78 = .ok (.iload_n 2, 1) := by decide +kernel
theorem dX8_serveAll_79 : decode cX8_serveAll 79 = .ok (.ireturn, 1) := by decide +kernel
theorem dX8_release_0 : decode cX8_release 0 = .ok (.aload_n 0, 1) := by decide +kernel
theorem dX8_release_1 : decode cX8_release 1 = .ok (.iload_n 1, 1) := by decide +kernel
theorem dX8_release_2 : decode cX8_release 2 = .ok (.invokevirtual 126, 3) := by decide +kernel
theorem dX8_release_5 : decode cX8_release 5 = .ok (.aload_n 0, 1) := by decide +kernel
theorem dX8_release_6 : decode cX8_release 6 = .ok (.aload_n 0, 1) := by decide +kernel
theorem dX8_release_7 : decode cX8_release 7 = .ok (.getfield 10, 3) := by decide +kernel
theorem dX8_release_10 : decode cX8_release 10 = .ok (.iload_n 1, 1) := by decide +kernel
theorem dX8_release_11 : decode cX8_release 11 = .ok (.invokevirtual 250, 3) := by decide +kernel
theorem dX8_release_14 : decode cX8_release 14 = .ok (.invokevirtual 191, 3) := by decide +kernel
theorem dX8_release_17 : decode cX8_release 17 = .ok (.aload_n 0, 1) := by decide +kernel
theorem dX8_release_18 : decode cX8_release 18 = .ok (.getfield 22, 3) := by decide +kernel
theorem dX8_release_21 : decode cX8_release 21 = .ok (.aload_n 0, 1) := by decide +kernel
theorem dX8_release_22 : decode cX8_release 22 = .ok (.getfield 10, 3) := by decide +kernel
theorem dX8_release_25 : decode cX8_release 25 = .ok (.invokevirtual 66, 3) := by decide +kernel
theorem dX8_release_28 : decode cX8_release 28 = .ok (.aload_n 0, 1) := by decide +kernel
theorem dX8_release_29 : decode cX8_release 29 = .ok (.getfield 10, 3) := by decide +kernel
theorem dX8_release_32 : decode cX8_release 32 = .ok (.getfield 129, 3) := by decide +kernel
theorem dX8_release_35 : decode cX8_release 35 = .ok (.iload_n 1, 1) := by decide +kernel
theorem dX8_release_36 : decode cX8_release 36 = .ok (.aaload, 1) := by decide +kernel
theorem dX8_release_37 : decode cX8_release 37 = .ok (.getfield 153, 3) := by decide +kernel
theorem dX8_release_40 : decode cX8_release 40 = .ok (.istore_n 2, 1) := by decide +kernel
theorem dX8_release_41 : decode cX8_release 41 = .ok (.aload_n 0, 1) := by decide +kernel
theorem dX8_release_42 : decode cX8_release 42 = .ok (.getfield 10, 3) := by decide +kernel
theorem dX8_release_45 : decode cX8_release 45 = .ok (.iload_n 1, 1) := by decide +kernel
theorem dX8_release_46 : decode cX8_release 46 = .ok (.invokevirtual 253, 3) := by decide +kernel
theorem dX8_release_49 : decode cX8_release 49 = .ok (.iload_n 2, 1) := by decide +kernel
theorem dX8_release_50 : decode cX8_release 50 = .ok (.ireturn, 1) := by decide +kernel
theorem dX8_putOff_0 : decode cX8_putOff 0 = .ok (.aload_n 0, 1) := by decide +kernel
theorem dX8_putOff_1 : decode cX8_putOff 1 = .ok (.iload_n 1, 1) := by decide +kernel
theorem dX8_putOff_2 : decode cX8_putOff 2 = .ok (.invokevirtual 126, 3) := by decide +kernel
theorem dX8_putOff_5 : decode cX8_putOff 5 = .ok (.iload_n 2, 1) := by decide +kernel
theorem dX8_putOff_6 : decode cX8_putOff 6 = .ok (.invokestatic 256, 3) := by decide +kernel
theorem dX8_putOff_9 : decode cX8_putOff 9 = .ok (.ifCond .ne 14, 3) := by decide +kernel
theorem dX8_putOff_12 : decode cX8_putOff 12 = .ok (.new 51, 3) := by decide +kernel
theorem dX8_putOff_15 : decode cX8_putOff 15 = .ok (.dup, 1) := by decide +kernel
theorem dX8_putOff_16 : decode cX8_putOff 16 = .ok (.ldc_w 259, 3) := by decide +kernel
theorem dX8_putOff_19 : decode cX8_putOff 19 = .ok (.invokespecial 55, 3) := by decide +kernel
theorem dX8_putOff_22 : decode cX8_putOff 22 = .ok (.athrow, 1) := by decide +kernel
theorem dX8_putOff_23 : decode cX8_putOff 23 = .ok (.aload_n 0, 1) := by decide +kernel
theorem dX8_putOff_24 : decode cX8_putOff 24 = .ok (.getfield 10, 3) := by decide +kernel
theorem dX8_putOff_27 : decode cX8_putOff 27 = .ok (.getfield 129, 3) := by decide +kernel
theorem dX8_putOff_30 : decode cX8_putOff 30 = .ok (.iload_n 1, 1) := by decide +kernel
theorem dX8_putOff_31 : decode cX8_putOff 31 = .ok (.aaload, 1) := by decide +kernel
theorem dX8_putOff_32 : decode cX8_putOff 32 = .ok (.astore_n 3, 1) := by decide +kernel
theorem dX8_putOff_33 : decode cX8_putOff 33 = .ok (.aload_n 0, 1) := by decide +kernel
theorem dX8_putOff_34 : decode cX8_putOff 34 = .ok (.aload_n 3, 1) := by decide +kernel
theorem dX8_putOff_35 : decode cX8_putOff 35 = .ok (.invokevirtual 261, 3) := by decide +kernel
theorem dX8_putOff_38 : decode cX8_putOff 38 = .ok (.invokevirtual 191, 3) := by decide +kernel
theorem dX8_putOff_41 : decode cX8_putOff 41 = .ok (.aload_n 0, 1) := by decide +kernel
theorem dX8_putOff_42 : decode cX8_putOff 42 = .ok (.getfield 22, 3) := by decide +kernel
theorem dX8_putOff_45 : decode cX8_putOff 45 = .ok (.aload_n 0, 1) := by decide +kernel
theorem dX8_putOff_46 : decode cX8_putOff 46 = .ok (.getfield 10, 3) := by decide +kernel
theorem dX8_putOff_49 : decode cX8_putOff 49 = .ok (.invokevirtual 66, 3) := by decide +kernel
theorem dX8_putOff_52 : decode cX8_putOff 52 = .ok (.aload_n 3, 1) := by decide +kernel
theorem dX8_putOff_53 : decode cX8_putOff 53 = .ok (.iload_n 2, 1) := by decide +kernel
theorem dX8_putOff_54 : decode cX8_putOff 54 = .ok (.invokevirtual 265, 3) := by decide +kernel
theorem dX8_putOff_57 : decode cX8_putOff 57 = .ok (.aload_n 3, 1) := by decide +kernel
theorem dX8_putOff_58 : decode cX8_putOff 58 = .ok (.getfield 147, 3) := by decide +kernel
theorem dX8_putOff_61 : decode cX8_putOff 61 = .ok (.ireturn, 1) := by decide +kernel
theorem dX8_urgent_0 : decode cX8_urgent 0 = .ok (.aload_n 0, 1) := by decide +kernel
theorem dX8_urgent_1 : decode cX8_urgent 1 = .ok (.getfield 10, 3) := by decide +kernel
theorem dX8_urgent_4 : decode cX8_urgent 4 = .ok (.aload_n 0, 1) := by decide +kernel
theorem dX8_urgent_5 : decode cX8_urgent 5 = .ok (.getfield 40, 3) := by decide +kernel
theorem dX8_urgent_8 : decode cX8_urgent 8 = .ok (.invokevirtual 246, 3) := by decide +kernel
theorem dX8_urgent_11 : decode cX8_urgent 11 = .ok (.istore_n 2, 1) := by decide +kernel
theorem dX8_urgent_12 : decode cX8_urgent 12 = .ok (.iload_n 1, 1) := by decide +kernel
theorem dX8_urgent_13 : decode cX8_urgent 13 = .ok (.ifCond .lt 8, 3) := by decide +kernel
theorem dX8_urgent_16 : decode cX8_urgent 16 = .ok (.iload_n 1, 1) := by decide +kernel
theorem dX8_urgent_17 : decode cX8_urgent 17 = .ok (.iload_n 2, 1) := by decide +kernel
theorem dX8_urgent_18 : decode cX8_urgent 18 = .ok (.if_icmp .lt 14, 3) := by decide +kernel
theorem dX8_urgent_21 : decode cX8_urgent 21 = .ok (.new 175, 3) := by decide +kernel
theorem dX8_urgent_24 : decode cX8_urgent 24 = .ok (.dup, 1) := by decide +kernel
theorem dX8_urgent_25 : decode cX8_urgent 25 = .ok (.ldc_w 268, 3) := by decide +kernel
theorem dX8_urgent_28 : decode cX8_urgent 28 = .ok (.invokespecial 179, 3) := by decide +kernel
theorem dX8_urgent_31 : decode cX8_urgent 31 = .ok (.athrow, 1) := by decide +kernel
theorem dX8_urgent_32 : decode cX8_urgent 32 = .ok (.aload_n 0, 1) := by decide +kernel
theorem dX8_urgent_33 : decode cX8_urgent 33 = .ok (.getfield 40, 3) := by decide +kernel
theorem dX8_urgent_36 : decode cX8_urgent 36 = .ok (.iload_n 1, 1) := by decide +kernel
theorem dX8_urgent_37 : decode cX8_urgent 37 = .ok (.iaload, 1) := by decide +kernel
theorem dX8_urgent_38 : decode cX8_urgent 38 = .ok (.ireturn, 1) := by decide +kernel
theorem dX8_pilot_0 : decode cX8_pilot 0 = .ok (.aload_n 0, 1) := by decide +kernel
theorem dX8_pilot_1 : decode cX8_pilot 1 = .ok (.iload_n 1, 1) := by decide +kernel
theorem dX8_pilot_2 : decode cX8_pilot 2 = .ok (.invokevirtual 180, 3) := by decide +kernel
theorem dX8_pilot_5 : decode cX8_pilot 5 = .ok (.aload_n 0, 1) := by decide +kernel
theorem dX8_pilot_6 : decode cX8_pilot 6 = .ok (.getfield 10, 3) := by decide +kernel
theorem dX8_pilot_9 : decode cX8_pilot 9 = .ok (.getfield 183, 3) := by decide +kernel
theorem dX8_pilot_12 : decode cX8_pilot 12 = .ok (.iload_n 1, 1) := by decide +kernel
theorem dX8_pilot_13 : decode cX8_pilot 13 = .ok (.aaload, 1) := by decide +kernel
theorem dX8_pilot_14 : decode cX8_pilot 14 = .ok (.astore_n 3, 1) := by decide +kernel
theorem dX8_pilot_15 : decode cX8_pilot 15 = .ok (.iload_n 2, 1) := by decide +kernel
theorem dX8_pilot_16 : decode cX8_pilot 16 = .ok (.tableswitch 90 0 6 #[44, 49, 54, 63, 68, 73, 82], 44) := by decide +kernel
theorem dX8_pilot_60 : decode cX8_pilot 60 = .ok (.aload_n 3, 1) := by decide +kernel
theorem dX8_pilot_61 : decode cX8_pilot 61 = .ok (.getfield 270, 3) := by decide +kernel
theorem dX8_pilot_64 : decode cX8_pilot 64 = .ok (.ireturn, 1) := by decide +kernel
theorem dX8_pilot_65 : decode cX8_pilot 65 = .ok (.aload_n 3, 1) := by decide +kernel
theorem dX8_pilot_66 : decode cX8_pilot 66 = .ok (.getfield 275, 3) := by decide +kernel
theorem dX8_pilot_69 : decode cX8_pilot 69 = .ok (.ireturn, 1) := by decide +kernel
theorem dX8_pilot_70 : decode cX8_pilot 70 = .ok (.aload_n 0, 1) := by decide +kernel
theorem dX8_pilot_71 : decode cX8_pilot 71 = .ok (.getfield 10, 3) := by decide +kernel
theorem dX8_pilot_74 : decode cX8_pilot 74 = .ok (.iload_n 1, 1) := by decide +kernel
theorem dX8_pilot_75 : decode cX8_pilot 75 = .ok (.invokevirtual 278, 3) := by decide +kernel
theorem dX8_pilot_78 : decode cX8_pilot 78 = .ok (.ireturn, 1) := by decide +kernel
theorem dX8_pilot_79 : decode cX8_pilot 79 = .ok (.aload_n 3, 1) := by decide +kernel
theorem dX8_pilot_80 : decode cX8_pilot 80 = .ok (.invokevirtual 281, 3) := by decide +kernel
theorem dX8_pilot_83 : decode cX8_pilot 83 = .ok (.ireturn, 1) := by decide +kernel
theorem dX8_pilot_84 : decode cX8_pilot 84 = .ok (.aload_n 3, 1) := by decide +kernel
theorem dX8_pilot_85 : decode cX8_pilot 85 = .ok (.invokevirtual 284, 3) := by decide +kernel
theorem dX8_pilot_88 : decode cX8_pilot 88 = .ok (.ireturn, 1) := by decide +kernel
theorem dX8_pilot_89 : decode cX8_pilot 89 = .ok (.aload_n 0, 1) := by decide +kernel
theorem dX8_pilot_90 : decode cX8_pilot 90 = .ok (.getfield 10, 3) := by decide +kernel
theorem dX8_pilot_93 : decode cX8_pilot 93 = .ok (.aload_n 3, 1) := by decide +kernel
theorem dX8_pilot_94 : decode cX8_pilot 94 = .ok (.invokevirtual 286, 3) := by decide +kernel
theorem dX8_pilot_97 : decode cX8_pilot 97 = .ok (.ireturn, 1) := by decide +kernel
theorem dX8_pilot_98 : decode cX8_pilot 98 = .ok (.aload_n 3, 1) := by decide +kernel
theorem dX8_pilot_99 : decode cX8_pilot 99 = .ok (.sipush 1000, 3) := by decide +kernel
theorem dX8_pilot_102 : decode cX8_pilot 102 = .ok (.invokevirtual 290, 3) := by decide +kernel
theorem dX8_pilot_105 : decode cX8_pilot 105 = .ok (.ireturn, 1) := by decide +kernel
theorem dX8_pilot_106 : decode cX8_pilot 106 = .ok (.new 51, 3) := by decide +kernel
theorem dX8_pilot_109 : decode cX8_pilot 109 = .ok (.dup, 1) := by decide +kernel
theorem dX8_pilot_110 : decode cX8_pilot 110 = .ok (.ldc_w 293, 3) := by decide +kernel
theorem dX8_pilot_113 : decode cX8_pilot 113 = .ok (.invokespecial 55, 3) := by decide +kernel
theorem dX8_pilot_116 : decode cX8_pilot 116 = .ok (.athrow, 1) := by decide +kernel
theorem dX8_planOf_0 : decode cX8_planOf 0 = .ok (.aload_n 0, 1) := by decide +kernel
theorem dX8_planOf_1 : decode cX8_planOf 1 = .ok (.iload_n 1, 1) := by decide +kernel
theorem dX8_planOf_2 : decode cX8_planOf 2 = .ok (.invokevirtual 180, 3) := by decide +kernel
theorem dX8_planOf_5 : decode cX8_planOf 5 = .ok (.aload_n 0, 1) := by decide +kernel
theorem dX8_planOf_6 : decode cX8_planOf 6 = .ok (.getfield 10, 3) := by decide +kernel
theorem dX8_planOf_9 : decode cX8_planOf 9 = .ok (.getfield 183, 3) := by decide +kernel
theorem dX8_planOf_12 : decode cX8_planOf 12 = .ok (.iload_n 1, 1) := by decide +kernel
theorem dX8_planOf_13 : decode cX8_planOf 13 = .ok (.aaload, 1) := by decide +kernel
theorem dX8_planOf_14 : decode cX8_planOf 14 = .ok (.iload_n 2, 1) := by decide +kernel
theorem dX8_planOf_15 : decode cX8_planOf 15 = .ok (.invokevirtual 295, 3) := by decide +kernel
theorem dX8_planOf_18 : decode cX8_planOf 18 = .ok (.astore 4, 2) := by decide +kernel
theorem dX8_planOf_20 : decode cX8_planOf 20 = .ok (.aload 4, 2) := by decide +kernel
theorem dX8_planOf_22 : decode cX8_planOf 22 = .ok (.ifnonnull 14, 3) := by decide +kernel
theorem dX8_planOf_25 : decode cX8_planOf 25 = .ok (.new 175, 3) := by decide +kernel
theorem dX8_planOf_28 : decode cX8_planOf 28 = .ok (.dup, 1) := by decide +kernel
theorem dX8_planOf_29 : decode cX8_planOf 29 = .ok (.ldc_w 299, 3) := by decide +kernel
theorem dX8_planOf_32 : decode cX8_planOf 32 = .ok (.invokespecial 179, 3) := by decide +kernel
theorem dX8_planOf_35 : decode cX8_planOf 35 = .ok (.athrow, 1) := by decide +kernel
theorem dX8_planOf_36 : decode cX8_planOf 36 = .ok (.iload_n 3, 1) := by decide +kernel
theorem dX8_planOf_37 : decode cX8_planOf 37 = .ok (.tableswitch 65 0 4 #[35, 41, 47, 53, 59], 35) := by decide +kernel
theorem dX8_planOf_72 : decode cX8_planOf 72 = .ok (.aload 4, 2) := by decide +kernel
theorem dX8_planOf_74 : decode cX8_planOf 74 = .ok (.getfield 301, 3) := by decide +kernel
theorem dX8_planOf_77 : decode cX8_planOf 77 = .ok (.ireturn, 1) := by decide +kernel
theorem dX8_planOf_78 : decode cX8_planOf 78 = .ok (.aload 4, 2) := by decide +kernel
theorem dX8_planOf_80 : decode cX8_planOf 80 = .ok (.getfield 306, 3) := by decide +kernel
theorem dX8_planOf_83 : decode cX8_planOf 83 = .ok (.ireturn, 1) := by decide +kernel
theorem dX8_planOf_84 : decode cX8_planOf 84 = .ok (.aload 4, 2) := by decide +kernel
theorem dX8_planOf_86 : decode cX8_planOf 86 = .ok (.getfield 307, 3) := by decide +kernel
theorem dX8_planOf_89 : decode cX8_planOf 89 = .ok (.ireturn, 1) := by decide +kernel
theorem dX8_planOf_90 : decode cX8_planOf 90 = .ok (.aload 4, 2) := by decide +kernel
theorem dX8_planOf_92 : decode cX8_planOf 92 = .ok (.getfield 308, 3) := by decide +kernel
theorem dX8_planOf_95 : decode cX8_planOf 95 = .ok (.ireturn, 1) := by decide +kernel
theorem dX8_planOf_96 : decode cX8_planOf 96 = .ok (.aload 4, 2) := by decide +kernel
theorem dX8_planOf_98 : decode cX8_planOf 98 = .ok (.getfield 311, 3) := by decide +kernel
theorem dX8_planOf_101 : decode cX8_planOf 101 = .ok (.ireturn, 1) := by decide +kernel
theorem dX8_planOf_102 : decode cX8_planOf 102 = .ok (.new 51, 3) := by decide +kernel
theorem dX8_planOf_105 : decode cX8_planOf 105 = .ok (.dup, 1) := by decide +kernel
theorem dX8_planOf_106 : decode cX8_planOf 106 = .ok (.ldc_w 314, 3) := by decide +kernel
theorem dX8_planOf_109 : decode cX8_planOf 109 = .ok (.invokespecial 55, 3) := by decide +kernel
theorem dX8_planOf_112 : decode cX8_planOf 112 = .ok (.athrow, 1) := by decide +kernel
theorem dX8_place_0 : decode cX8_place 0 = .ok (.aload_n 0, 1) := by decide +kernel
theorem dX8_place_1 : decode cX8_place 1 = .ok (.iload_n 1, 1) := by decide +kernel
theorem dX8_place_2 : decode cX8_place 2 = .ok (.invokevirtual 180, 3) := by decide +kernel
theorem dX8_place_5 : decode cX8_place 5 = .ok (.iload_n 2, 1) := by decide +kernel
theorem dX8_place_6 : decode cX8_place 6 = .ok (.invokestatic 80, 3) := by decide +kernel
theorem dX8_place_9 : decode cX8_place 9 = .ok (.aload_n 0, 1) := by decide +kernel
theorem dX8_place_10 : decode cX8_place 10 = .ok (.getfield 10, 3) := by decide +kernel
theorem dX8_place_13 : decode cX8_place 13 = .ok (.getfield 183, 3) := by decide +kernel
theorem dX8_place_16 : decode cX8_place 16 = .ok (.iload_n 1, 1) := by decide +kernel
theorem dX8_place_17 : decode cX8_place 17 = .ok (.aaload, 1) := by decide +kernel
theorem dX8_place_18 : decode cX8_place 18 = .ok (.iload_n 2, 1) := by decide +kernel
theorem dX8_place_19 : decode cX8_place 19 = .ok (.invokevirtual 316, 3) := by decide +kernel
theorem dX8_place_22 : decode cX8_place 22 = .ok (.ireturn, 1) := by decide +kernel
theorem dX8_placeAgain_0 : decode cX8_placeAgain 0 = .ok (.aload_n 0, 1) := by decide +kernel
theorem dX8_placeAgain_1 : decode cX8_placeAgain 1 = .ok (.iload_n 1, 1) := by decide +kernel
theorem dX8_placeAgain_2 : decode cX8_placeAgain 2 = .ok (.invokevirtual 180, 3) := by decide +kernel
theorem dX8_placeAgain_5 : decode cX8_placeAgain 5 = .ok (.iload_n 2, 1) := by decide +kernel
theorem dX8_placeAgain_6 : decode cX8_placeAgain 6 = .ok (.invokestatic 80, 3) := by decide +kernel
theorem dX8_placeAgain_9 : decode cX8_placeAgain 9 = .ok (.aload_n 0, 1) := by decide +kernel
theorem dX8_placeAgain_10 : decode cX8_placeAgain 10 = .ok (.getfield 10, 3) := by decide +kernel
theorem dX8_placeAgain_13 : decode cX8_placeAgain 13 = .ok (.getfield 183, 3) := by decide +kernel
theorem dX8_placeAgain_16 : decode cX8_placeAgain 16 = .ok (.iload_n 1, 1) := by decide +kernel
theorem dX8_placeAgain_17 : decode cX8_placeAgain 17 = .ok (.aaload, 1) := by decide +kernel
theorem dX8_placeAgain_18 : decode cX8_placeAgain 18 = .ok (.iload_n 2, 1) := by decide +kernel
theorem dX8_placeAgain_19 : decode cX8_placeAgain 19 = .ok (.invokevirtual 319, 3) := by decide +kernel
theorem dX8_placeAgain_22 : decode cX8_placeAgain 22 = .ok (.ireturn, 1) := by decide +kernel
theorem dX8_boat_0 : decode cX8_boat 0 = .ok (.aload_n 0, 1) := by decide +kernel
theorem dX8_boat_1 : decode cX8_boat 1 = .ok (.getfield 10, 3) := by decide +kernel
theorem dX8_boat_4 : decode cX8_boat 4 = .ok (.iload_n 1, 1) := by decide +kernel
theorem dX8_boat_5 : decode cX8_boat 5 = .ok (.invokevirtual 198, 3) := by decide +kernel
theorem dX8_boat_8 : decode cX8_boat 8 = .ok (.ifCond .ne 13, 3) := by decide +kernel
theorem dX8_boat_11 : decode cX8_boat 11 = .ok (.new 202, 3) := by decide +kernel
theorem dX8_boat_14 : decode cX8_boat 14 = .ok (.dup, 1) := by decide +kernel
theorem dX8_boat_15 : decode cX8_boat 15 = .ok (.ldc 204, 2) := by decide +kernel
theorem dX8_boat_17 : decode cX8_boat 17 = .ok (.invokespecial 206, 3) := by decide +kernel
theorem dX8_boat_20 : decode cX8_boat 20 = .ok (.athrow, 1) := by decide +kernel
theorem dX8_boat_21 : decode cX8_boat 21 = .ok (.aload_n 0, 1) := by decide +kernel
theorem dX8_boat_22 : decode cX8_boat 22 = .ok (.getfield 10, 3) := by decide +kernel
theorem dX8_boat_25 : decode cX8_boat 25 = .ok (.getfield 211, 3) := by decide +kernel
theorem dX8_boat_28 : decode cX8_boat 28 = .ok (.iload_n 1, 1) := by decide +kernel
theorem dX8_boat_29 : decode cX8_boat 29 = .ok (.aaload, 1) := by decide +kernel
theorem dX8_boat_30 : decode cX8_boat 30 = .ok (.astore_n 3, 1) := by decide +kernel
theorem dX8_boat_31 : decode cX8_boat 31 = .ok (.iload_n 2, 1) := by decide +kernel
theorem dX8_boat_32 : decode cX8_boat 32 = .ok (.tableswitch 61 0 4 #[36, 41, 46, 51, 56], 36) := by decide +kernel
theorem dX8_boat_68 : decode cX8_boat 68 = .ok (.aload_n 3, 1) := by decide +kernel
theorem dX8_boat_69 : decode cX8_boat 69 = .ok (.getfield 322, 3) := by decide +kernel
theorem dX8_boat_72 : decode cX8_boat 72 = .ok (.ireturn, 1) := by decide +kernel
theorem dX8_boat_73 : decode cX8_boat 73 = .ok (.aload_n 3, 1) := by decide +kernel
theorem dX8_boat_74 : decode cX8_boat 74 = .ok (.getfield 325, 3) := by decide +kernel
theorem dX8_boat_77 : decode cX8_boat 77 = .ok (.ireturn, 1) := by decide +kernel
theorem dX8_boat_78 : decode cX8_boat 78 = .ok (.aload_n 3, 1) := by decide +kernel
theorem dX8_boat_79 : decode cX8_boat 79 = .ok (.getfield 328, 3) := by decide +kernel
theorem dX8_boat_82 : decode cX8_boat 82 = .ok (.ireturn, 1) := by decide +kernel
theorem dX8_boat_83 : decode cX8_boat 83 = .ok (.aload_n 3, 1) := by decide +kernel
theorem dX8_boat_84 : decode cX8_boat 84 = .ok (.getfield 222, 3) := by decide +kernel
theorem dX8_boat_87 : decode cX8_boat 87 = .ok (.ireturn, 1) := by decide +kernel
theorem dX8_boat_88 : decode cX8_boat 88 = .ok (.aload_n 3, 1) := by decide +kernel
theorem dX8_boat_89 : decode cX8_boat 89 = .ok (.getfield 331, 3) := by decide +kernel
theorem dX8_boat_92 : decode cX8_boat 92 = .ok (.ireturn, 1) := by decide +kernel
theorem dX8_boat_93 : decode cX8_boat 93 = .ok (.new 51, 3) := by decide +kernel
theorem dX8_boat_96 : decode cX8_boat 96 = .ok (.dup, 1) := by decide +kernel
theorem dX8_boat_97 : decode cX8_boat 97 = .ok (.ldc_w 334, 3) := by decide +kernel
theorem dX8_boat_100 : decode cX8_boat 100 = .ok (.invokespecial 55, 3) := by decide +kernel
theorem dX8_boat_103 : decode cX8_boat 103 = .ok (.athrow, 1) := by decide +kernel
theorem dX8_pass_0 : decode cX8_pass 0 = .ok (.iload_n 1, 1) := by decide +kernel
theorem dX8_pass_1 : decode cX8_pass 1 = .ok (.invokestatic 336, 3) := by decide +kernel
theorem dX8_pass_4 : decode cX8_pass 4 = .ok (.ifCond .ne 14, 3) := by decide +kernel
theorem dX8_pass_7 : decode cX8_pass 7 = .ok (.new 51, 3) := by decide +kernel
theorem dX8_pass_10 : decode cX8_pass 10 = .ok (.dup, 1) := by decide +kernel
theorem dX8_pass_11 : decode cX8_pass 11 = .ok (.ldc_w 259, 3) := by decide +kernel
theorem dX8_pass_14 : decode cX8_pass 14 = .ok (.invokespecial 55, 3) := by decide +kernel
theorem dX8_pass_17 : decode cX8_pass 17 = .ok (.athrow, 1) := by decide +kernel
theorem dX8_pass_18 : decode cX8_pass 18 = .ok (.aload_n 0, 1) := by decide +kernel
theorem dX8_pass_19 : decode cX8_pass 19 = .ok (.getfield 10, 3) := by decide +kernel
theorem dX8_pass_22 : decode cX8_pass 22 = .ok (.getfield 339, 3) := by decide +kernel
theorem dX8_pass_25 : decode cX8_pass 25 = .ok (.iload_n 1, 1) := by decide +kernel
theorem dX8_pass_26 : decode cX8_pass 26 = .ok (.iadd, 1) := by decide +kernel
theorem dX8_pass_27 : decode cX8_pass 27 = .ok (.sipush 1000, 3) := by decide +kernel
theorem dX8_pass_30 : decode cX8_pass 30 = .ok (.if_icmp .lt 14, 3) := by decide +kernel
theorem dX8_pass_33 : decode cX8_pass 33 = .ok (.new 93, 3) := by decide +kernel
theorem dX8_pass_36 : decode cX8_pass 36 = .ok (.dup, 1) := by decide +kernel
theorem dX8_pass_37 : decode cX8_pass 37 = .ok (.ldc_w 342, 3) := by decide +kernel
theorem dX8_pass_40 : decode cX8_pass 40 = .ok (.invokespecial 97, 3) := by decide +kernel
theorem dX8_pass_43 : decode cX8_pass 43 = .ok (.athrow, 1) := by decide +kernel
theorem dX8_pass_44 : decode cX8_pass 44 = .ok (.aload_n 0, 1) := by decide +kernel
theorem dX8_pass_45 : decode cX8_pass 45 = .ok (.getfield 22, 3) := by decide +kernel
theorem dX8_pass_48 : decode cX8_pass 48 = .ok (.aload_n 0, 1) := by decide +kernel
theorem dX8_pass_49 : decode cX8_pass 49 = .ok (.getfield 10, 3) := by decide +kernel
theorem dX8_pass_52 : decode cX8_pass 52 = .ok (.invokevirtual 66, 3) := by decide +kernel
theorem dX8_pass_55 : decode cX8_pass 55 = .ok (.aload_n 0, 1) := by decide +kernel
theorem dX8_pass_56 : decode cX8_pass 56 = .ok (.getfield 10, 3) := by decide +kernel
theorem dX8_pass_59 : decode cX8_pass 59 = .ok (.iload_n 1, 1) := by decide +kernel
theorem dX8_pass_60 : decode cX8_pass 60 = .ok (.invokevirtual 344, 3) := by decide +kernel
theorem dX8_pass_63 : decode cX8_pass 63 = .ok (.ireturn, 1) := by decide +kernel
theorem dX8_number_0 : decode cX8_number 0 = .ok (.iload_n 1, 1) := by decide +kernel
theorem dX8_number_1 : decode cX8_number 1 = .ok (.ifCond .lt 17, 3) := by decide +kernel
theorem dX8_number_4 : decode cX8_number 4 = .ok (.iload_n 1, 1) := by decide +kernel
theorem dX8_number_5 : decode cX8_number 5 = .ok (.iconst 3, 1) := by decide +kernel
theorem dX8_number_6 : decode cX8_number 6 = .ok (.if_icmp .gt 12, 3) := by decide +kernel
theorem dX8_number_9 : decode cX8_number 9 = .ok (.aload_n 0, 1) := by decide +kernel
theorem dX8_number_10 : decode cX8_number 10 = .ok (.getfield 10, 3) := by decide +kernel
theorem dX8_number_13 : decode cX8_number 13 = .ok (.iload_n 1, 1) := by decide +kernel
theorem dX8_number_14 : decode cX8_number 14 = .ok (.invokevirtual 347, 3) := by decide +kernel
theorem dX8_number_17 : decode cX8_number 17 = .ok (.ireturn, 1) := by decide +kernel
theorem dX8_number_18 : decode cX8_number 18 = .ok (.iload_n 1, 1) := by decide +kernel
theorem dX8_number_19 : decode cX8_number 19 = .ok (.bipush 20, 2) := by decide +kernel
theorem dX8_number_21 : decode cX8_number 21 = .ok (.if_icmp .lt 22, 3) := by decide +kernel
theorem dX8_number_24 : decode cX8_number 24 = .ok (.iload_n 1, 1) := by decide +kernel
theorem dX8_number_25 : decode cX8_number 25 = .ok (.bipush 25, 2) := by decide +kernel
theorem dX8_number_27 : decode cX8_number 27 = .ok (.if_icmp .ge 16, 3) := by decide +kernel
theorem dX8_number_30 : decode cX8_number 30 = .ok (.aload_n 0, 1) := by decide +kernel
theorem dX8_number_31 : decode cX8_number 31 = .ok (.getfield 10, 3) := by decide +kernel
theorem dX8_number_34 : decode cX8_number 34 = .ok (.getfield 70, 3) := by decide +kernel
theorem dX8_number_37 : decode cX8_number 37 = .ok (.iload_n 1, 1) := by decide +kernel
theorem dX8_number_38 : decode cX8_number 38 = .ok (.bipush 20, 2) := by decide +kernel
theorem dX8_number_40 : decode cX8_number 40 = .ok (.isub, 1) := by decide +kernel
theorem dX8_number_41 : decode cX8_number 41 = .ok (.iaload, 1) := by decide +kernel
theorem dX8_number_42 : decode cX8_number 42 = .ok (.ireturn, 1) := by decide +kernel
theorem dX8_number_43 : decode cX8_number 43 = .ok (.iload_n 1, 1) := by decide +kernel
